def wa_fuel (w : Int32) : Nat := 32 - w.toNatClampNeg
theorem xl_next {n : Nat} {w q : Int32} (h : xl_c 0 32 (n + 1) w) (hq : q ≤ 32) (c : ¬ q ≤ w) : xl_c 1 32 (wa_fuel w) (w + 1) := by
  obtain ⟨i, rfl, h1, h2, h3⟩ := h
  rw [Int32.le_iff_toInt_le] at hq
  rw [Int32.le_iff_toInt_le, nI_toInt (by omega)] at c
  have e : (32 : Int32).toInt = 32 := by decide
  refine ⟨i + 1, nI_1 i, by omega, ?_, by omega⟩
  unfold wa_fuel
  rw [nI_clamp (by omega)]
  omega
def kR_holds_95a_0 (rf : Nat → Int32) (we : Int64) (kind : Int32) (a : Int32) (b : Int32) (angle : Int32) (part : Int32) : Nat → Int32 → Int32 → Int64
  | 0, _, _ => default
  | n_95 + 1, be, wh => if 4 ≤ wh then (if part = 1 then (be.toInt64) else (((((fR_formula rf kind be a.toInt64 b.toInt64) * (200 - angle.toInt64)) / 200) * we) / 100)) else (if (fR_formula rf kind be a.toInt64 b.toInt64) ≤ (fR_formula rf kind wh a.toInt64 b.toInt64) then (kR_holds_95a_0 rf we kind a b angle part n_95 be (wh + 1)) else (kR_holds_95a_0 rf we kind a b angle part n_95 wh (wh + 1)))
def kR_holds_95a_1 (rf : Nat → Int32) (we : Int64) (kind : Int32) (a : Int32) (b : Int32) (angle : Int32) (part : Int32) : Nat → Int32 → Int32 → Int32
  | 0, _, _ => default
  | n_95 + 1, be, wh => if 4 ≤ wh then (if part = 1 then ((0)) else ((0))) else (if (fR_formula rf kind be a.toInt64 b.toInt64) ≤ (fR_formula rf kind wh a.toInt64 b.toInt64) then (kR_holds_95a_1 rf we kind a b angle part n_95 be (wh + 1)) else (kR_holds_95a_1 rf we kind a b angle part n_95 wh (wh + 1)))
def gR_holds (rf : Nat → Int32) (we : Int64) (kind : Int32) (a : Int32) (b : Int32) (angle : Int32) (part : Int32) : Int64 := if (fR_isIn a.toInt64 (1) (1000)) = true then (if (fR_isIn b.toInt64 (1) (1000)) = true then (if (fR_isIn angle.toInt64 (0) (90)) = true then (if (fR_isFour kind) = true then (if part < 0 then ((0)) else (if part ≤ 1 then (kR_holds_95a_0 rf we kind a b angle part 4 (0) (1)) else ((0)))) else ((0))) else (if (fR_isFour kind) = true then (if part < 0 then ((0)) else (if part ≤ 1 then ((0)) else ((0)))) else ((0)))) else (if (fR_isFour kind) = true then (if part < 0 then ((0)) else (if part ≤ 1 then ((0)) else ((0)))) else ((0)))) else (if (fR_isFour kind) = true then (if part < 0 then ((0)) else (if part ≤ 1 then ((0)) else ((0)))) else ((0)))
def gR_holds_0 (rf : Nat → Int32) (we : Int64) (kind : Int32) (a : Int32) (b : Int32) (angle : Int32) (part : Int32) : Int32 := if (fR_isIn a.toInt64 (1) (1000)) = true then (if (fR_isIn b.toInt64 (1) (1000)) = true then (if (fR_isIn angle.toInt64 (0) (90)) = true then (if (fR_isFour kind) = true then (if part < 0 then ((1)) else (if part ≤ 1 then (kR_holds_95a_1 rf we kind a b angle part 4 (0) (1)) else ((1)))) else ((1))) else (if (fR_isFour kind) = true then (if part < 0 then ((1)) else (if part ≤ 1 then ((2)) else ((1)))) else ((1)))) else (if (fR_isFour kind) = true then (if part < 0 then ((1)) else (if part ≤ 1 then ((2)) else ((1)))) else ((1)))) else (if (fR_isFour kind) = true then (if part < 0 then ((1)) else (if part ≤ 1 then ((2)) else ((1)))) else ((1)))
set_option maxHeartbeats 4000000 in
set_option maxRecDepth 100000 in
theorem cR_holds (l : Launch) {s0 : State} {dC : Nat → ClassId} {dI : Nat → Nat → Nat} {cI cC cL cO : ClassId} (E : xb_Env l s0 dC dI (xtys cI cC cL cO)) (sz : Nat) (h0 : Nat) (ra : Nat) (th : Int32) (ta : Nat) (zs : Int32) (po : Int32) (fa : Int32) (da : Nat) (la : Nat) (we : Int64) (le : Int64) (pk : Int32) (pm : Int32) (co : Int32) (pa : Nat) (pl : Int32) (xa : Nat) (ya : Nat) (mb : Int32) (ea : Nat) (wa : Nat) (rf : Nat → Int32) (kind : Int32) (a : Int32) (b : Int32) (angle : Int32) (part : Int32) : Met l yR_holds [.code yR_holds bR_holds 9 (some (.long))] ({ frames := 1, cells := 0, slots := 0, locals := 30 }) (va_Pc [.ref h0, .int kind, .int a, .int b, .int angle, .int part] (fun U => xb_At s0 U ∧ U.heap.size = sz ∧ va_P (dC, dI) classes [(h0, .inr (3, [.int th, .ref ta, .int zs, .int po, .int fa, .ref da, .ref ra, .ref la, .long we, .long le, .int pk, .int pm, .int co, .ref pa, .int pl, .ref xa, .ref ya, .int mb, .ref ea, .ref wa])), (ra, .inl (cI, 28, .inl rf))] U.heap ∧ va_D (fun q => s0.heap.size ≤ q) [(h0, .inr (3, [.int th, .ref ta, .int zs, .int po, .int fa, .ref da, .ref ra, .ref la, .long we, .long le, .int pk, .int pm, .int co, .ref pa, .int pl, .ref xa, .ref ya, .int mb, .ref ea, .ref wa])), (ra, .inl (cI, 28, .inl rf))])) (xb_W (dC, dI) (fun v9 w9 => v9 = some (.long (gR_holds rf we kind a b angle part)) ∧ w9 = [(h0, .inr (3, [.int (gR_holds_0 rf we kind a b angle part), .ref ta, .int zs, .int po, .int fa, .ref da, .ref ra, .ref la, .long we, .long le, .int pk, .int pm, .int co, .ref pa, .int pl, .ref xa, .ref ya, .int mb, .ref ea, .ref wa])), (ra, .inl (cI, 28, .inl rf))]) (va_A [(h0, .inr (3, [.int th, .ref ta, .int zs, .int po, .int fa, .ref da, .ref ra, .ref la, .long we, .long le, .int pk, .int pm, .int co, .ref pa, .int pl, .ref xa, .ref ya, .int mb, .ref ea, .ref wa])), (ra, .inl (cI, 28, .inl rf))] sz)) 0 0 (va_A [(h0, .inr (3, [.int th, .ref ta, .int zs, .int po, .int fa, .ref da, .ref ra, .ref la, .long we, .long le, .int pk, .int pm, .int co, .ref pa, .int pl, .ref xa, .ref ya, .int mb, .ref ea, .ref wa])), (ra, .inl (cI, 28, .inl rf))] sz) := by
  refine Met.ofW (cc := bR_holds) (maxL := 9) (ret := (some (.long))) (by decide) rfl ?_
  intro p e s m args below meth c s₁ B hml hv
  obtain ⟨rfl, hAt, hsz, hP, hD0⟩ := hv
  have hx := B.exec
  have hb := B.bytes
  have hr := B.returns
  have hts := xb_hts E hAt ([.ref h0, .int kind, .int a, .int b, .int angle, .int part] : List Value).toArray
  have hown : s.vm.findClass "NailRulesModel" = some m.cls := findClass_of_methodNamed B.named
  have hlocks := B.notSynchronized
  have hK := xb_K E hAt
  subst hsz
  have hA0 := xb_A0 hAt hD0
  have hD := hD0.self (sz := s.heap.size)
  generalize hAe : va_A [(h0, .inr (3, [.int th, .ref ta, .int zs, .int po, .int fa, .ref da, .ref ra, .ref la, .long we, .long le, .int pk, .int pm, .int co, .ref pa, .int pl, .ref xa, .ref ya, .int mb, .ref ea, .ref wa])), (ra, .inl (cI, 28, .inl rf))] s.heap.size = A at hD hA0 ⊢
  have hA : ∀ q : Nat, s.heap.size ≤ q → A q := fun q h => by rw [← hAe]; exact Or.inr h
  have hS : va_S A s.heap s.heap [] := va_S.rf
  have hl := lv_entry ([.ref h0, .int kind, .int a, .int b, .int angle, .int part]) (n := 9) (Nat.le_of_ble_eq_true rfl)
  rw [lg_entry_eq]
  generalize (lg_sl ([.ref h0, .int kind, .int a, .int b, .int angle, .int part]) ++ List.replicate (9 - (lg_sl ([.ref h0, .int kind, .int a, .int b, .int angle, .int part])).length) Slot.unset).toArray = ls at hl ⊢
  have hl : lv_has ls 9 [(0, .ref h0), (1, .int kind), (2, .int a), (3, .int b), (4, .int angle), (5, .int part)] := hl
  refine lv_iload_n hx hb dR_holds_0 rfl (lv_at hl 2 rfl) ?_
  refine lv_i2l hx hb dR_holds_1 rfl ?_
  refine lv_lconst (v := 1) hx hb dR_holds_2 (by decide) ?_
  refine lv_ldc2 (v := 1000) hx hb hown (hts _ xk_765) dR_holds_3 ?_
  refine xb_rd (W.runS (As := [.long a.toInt64, .long 1, .long 1000]) (rest := []) ⟨hx, hb, hml, hown, hts⟩ (cR_isIn l E a.toInt64 1 1000) (cwS 3 hts (xb_gi (List.forall_mem_cons.mpr ⟨xk_754, List.forall_mem_cons.mpr ⟨xk_755, List.forall_mem_cons.mpr ⟨xk_45, List.forall_mem_cons.mpr ⟨xk_756, fun _ h => absurd h List.not_mem_nil⟩⟩⟩⟩)) rfl rfl rfl (by decide +kernel) ⟨Nat.le_of_ble_eq_true rfl, Nat.le_of_ble_eq_true rfl⟩) ⟨fun _ _ _ _ q => q, fun U hU hW => ⟨rfl, xb_atS hAt hS hA0 hU hW, fun k q h => by simp at h⟩⟩ rfl rfl hl.1 rfl (lv_room (Nat.le_of_ble_eq_true rfl)) dR_holds_6 ⟨Nat.zero_le _, Nat.zero_le _⟩) ?_
  refine lv_if_eq (tgt := 41) hx hb dR_holds_9 (by decide) (fun c_1 => ?_) (fun c_1 => ?_)
  · have c_1 := xb_bi_f.mp c_1
    refine lv_iconst (v := 0) hx hb dR_holds_41 (by decide) ?_
    refine lv_istore (lv' := [(6, .int 0), (0, .ref h0), (1, .int kind), (2, .int a), (3, .int b), (4, .int angle), (5, .int part)]) hx hb dR_holds_42 hl (by decide) rfl (fun ls hl => ?_)
    refine lv_aload_n hx hb dR_holds_44 rfl (lv_at hl 1 rfl) ?_
    refine lv_iload_n hx hb dR_holds_45 rfl (lv_at hl 2 rfl) ?_
    refine xb_rd (W.runS (As := [.int kind]) (rest := [.ref h0]) ⟨hx, hb, hml, hown, hts⟩ (cR_isFour l E kind) (cwS 1 hts (xb_gi (List.forall_mem_cons.mpr ⟨xk_750, List.forall_mem_cons.mpr ⟨xk_751, List.forall_mem_cons.mpr ⟨xk_45, List.forall_mem_cons.mpr ⟨xk_752, fun _ h => absurd h List.not_mem_nil⟩⟩⟩⟩)) rfl rfl rfl (by decide +kernel) ⟨Nat.le_of_ble_eq_true rfl, Nat.le_of_ble_eq_true rfl⟩) ⟨fun _ _ _ _ q => q, fun U hU hW => ⟨rfl, xb_atS hAt hS hA0 hU hW, fun k q h => by simp at h⟩⟩ rfl rfl hl.1 rfl (lv_room (Nat.le_of_ble_eq_true rfl)) dR_holds_46 ⟨Nat.zero_le _, Nat.zero_le _⟩) ?_
    refine lv_if_eq (tgt := 63) hx hb dR_holds_49 (by decide) (fun c_2 => ?_) (fun c_2 => ?_)
    · have c_2 := xb_bi_f.mp c_2
      refine lv_iconst (v := 1) hx hb dR_holds_63 (by decide) ?_
      refine lv_goto (tgt := 77) hx hb dR_holds_64 (by decide) ?_
      refine va_put (D := (dC, dI)) (ci := 3) (v := .int 1) (ty := .int) (C := xR_R) (T := xF_R) (N := 20) hx hb hts xi_R xt_R xt_R_ok xn_R hown hK hP hD hS 0 rfl rfl 0 (by decide) (hts _ xk_646) (fun _ h9 => h9) rfl (by decide +kernel) rfl rfl (Nat.le_of_ble_eq_true rfl) dR_holds_77 (fun H locs hP hD hS => ?_)
      have hP : va_P (dC, dI) classes [(h0, .inr (3, [.int 1, .ref ta, .int zs, .int po, .int fa, .ref da, .ref ra, .ref la, .long we, .long le, .int pk, .int pm, .int co, .ref pa, .int pl, .ref xa, .ref ya, .int mb, .ref ea, .ref wa])), (ra, .inl (cI, 28, .inl rf))] H := hP
      have hD : va_D A [(h0, .inr (3, [.int 1, .ref ta, .int zs, .int po, .int fa, .ref da, .ref ra, .ref la, .long we, .long le, .int pk, .int pm, .int co, .ref pa, .int pl, .ref xa, .ref ya, .int mb, .ref ea, .ref wa])), (ra, .inl (cI, 28, .inl rf))] := hD
      refine lv_aload_n hx hb dR_holds_80 rfl (lv_at hl 1 rfl) ?_
      refine va_get (D := (dC, dI)) (ci := 3) (v := .int 1) (C := xR_R) (T := xF_R) (N := 20) hx hb hts xi_R hown hK hP 0 rfl rfl 0 (by decide) (hts _ xk_646) (fun _ h9 => h9) rfl dR_holds_81 ?_
      refine lv_if_le (tgt := 89) hx hb dR_holds_84 (by decide) (fun c_3 => ?_) (fun c_3 => ?_)
      · exact absurd c_3 (by decide)
      · refine lv_lconst (v := 0) hx hb dR_holds_87 (by decide) ?_
        have e_0 : gR_holds rf we kind a b angle part = (0 : Int64) := (if_neg c_1).trans ((if_neg c_2).trans (rfl))
        have e_1 : gR_holds_0 rf we kind a b angle part = (1 : Int32) := (if_neg c_1).trans ((if_neg c_2).trans (rfl))
        have hP9 := hP.sub (ws' := [(h0, .inr (3, [.int 1, .ref ta, .int zs, .int po, .int fa, .ref da, .ref ra, .ref la, .long we, .long le, .int pk, .int pm, .int co, .ref pa, .int pl, .ref xa, .ref ya, .int mb, .ref ea, .ref wa])), (ra, .inl (cI, 28, .inl rf))]) [0, 1] rfl
        have hD9 := hD.sub (ws' := [(h0, .inr (3, [.int 1, .ref ta, .int zs, .int po, .int fa, .ref da, .ref ra, .ref la, .long we, .long le, .int pk, .int pm, .int co, .ref pa, .int pl, .ref xa, .ref ya, .int mb, .ref ea, .ref wa])), (ra, .inl (cI, 28, .inl rf))]) [0, 1] (by decide) rfl
        exact W.lret (v := 0) hx hb hr (fun t ht hW => ⟨_, _, rfl, ⟨by first | rfl | (simp only [e_0, e_1]; try rfl), by first | rfl | (simp only [e_0, e_1]; try rfl)⟩, by rw [ht]; exact hP9, hD9, hS.F ht⟩) hS.2.2 dR_holds_88
    · have c_2 := xb_bi_t.mp c_2
      refine lv_iload hx hb dR_holds_52 (lv_at hl 6 rfl) ?_
      refine lv_if_lt (tgt := 63) hx hb dR_holds_54 (by decide) (fun c_4 => ?_) (fun c_4 => ?_)
      · refine lv_iconst (v := 1) hx hb dR_holds_63 (by decide) ?_
        refine lv_goto (tgt := 77) hx hb dR_holds_64 (by decide) ?_
        refine va_put (D := (dC, dI)) (ci := 3) (v := .int 1) (ty := .int) (C := xR_R) (T := xF_R) (N := 20) hx hb hts xi_R xt_R xt_R_ok xn_R hown hK hP hD hS 0 rfl rfl 0 (by decide) (hts _ xk_646) (fun _ h9 => h9) rfl (by decide +kernel) rfl rfl (Nat.le_of_ble_eq_true rfl) dR_holds_77 (fun H locs hP hD hS => ?_)
        have hP : va_P (dC, dI) classes [(h0, .inr (3, [.int 1, .ref ta, .int zs, .int po, .int fa, .ref da, .ref ra, .ref la, .long we, .long le, .int pk, .int pm, .int co, .ref pa, .int pl, .ref xa, .ref ya, .int mb, .ref ea, .ref wa])), (ra, .inl (cI, 28, .inl rf))] H := hP
        have hD : va_D A [(h0, .inr (3, [.int 1, .ref ta, .int zs, .int po, .int fa, .ref da, .ref ra, .ref la, .long we, .long le, .int pk, .int pm, .int co, .ref pa, .int pl, .ref xa, .ref ya, .int mb, .ref ea, .ref wa])), (ra, .inl (cI, 28, .inl rf))] := hD
        refine lv_aload_n hx hb dR_holds_80 rfl (lv_at hl 1 rfl) ?_
        refine va_get (D := (dC, dI)) (ci := 3) (v := .int 1) (C := xR_R) (T := xF_R) (N := 20) hx hb hts xi_R hown hK hP 0 rfl rfl 0 (by decide) (hts _ xk_646) (fun _ h9 => h9) rfl dR_holds_81 ?_
        refine lv_if_le (tgt := 89) hx hb dR_holds_84 (by decide) (fun c_5 => ?_) (fun c_5 => ?_)
        · exact absurd c_5 (by decide)
        · refine lv_lconst (v := 0) hx hb dR_holds_87 (by decide) ?_
          have e_0 : gR_holds rf we kind a b angle part = (0 : Int64) := (if_neg c_1).trans ((if_pos c_2).trans ((if_pos c_4).trans (rfl)))
          have e_1 : gR_holds_0 rf we kind a b angle part = (1 : Int32) := (if_neg c_1).trans ((if_pos c_2).trans ((if_pos c_4).trans (rfl)))
          have hP9 := hP.sub (ws' := [(h0, .inr (3, [.int 1, .ref ta, .int zs, .int po, .int fa, .ref da, .ref ra, .ref la, .long we, .long le, .int pk, .int pm, .int co, .ref pa, .int pl, .ref xa, .ref ya, .int mb, .ref ea, .ref wa])), (ra, .inl (cI, 28, .inl rf))]) [0, 1] rfl
          have hD9 := hD.sub (ws' := [(h0, .inr (3, [.int 1, .ref ta, .int zs, .int po, .int fa, .ref da, .ref ra, .ref la, .long we, .long le, .int pk, .int pm, .int co, .ref pa, .int pl, .ref xa, .ref ya, .int mb, .ref ea, .ref wa])), (ra, .inl (cI, 28, .inl rf))]) [0, 1] (by decide) rfl
          exact W.lret (v := 0) hx hb hr (fun t ht hW => ⟨_, _, rfl, ⟨by first | rfl | (simp only [e_0, e_1]; try rfl), by first | rfl | (simp only [e_0, e_1]; try rfl)⟩, by rw [ht]; exact hP9, hD9, hS.F ht⟩) hS.2.2 dR_holds_88
      · refine lv_iload hx hb dR_holds_57 (lv_at hl 6 rfl) ?_
        refine lv_iconst (v := 1) hx hb dR_holds_59 (by decide) ?_
        refine lv_icmp_le (tgt := 67) hx hb dR_holds_60 (by decide) (fun c_6 => ?_) (fun c_6 => ?_)
        · refine lv_iload hx hb dR_holds_67 (lv_at hl 0 rfl) ?_
          refine lv_if_eq (tgt := 76) hx hb dR_holds_69 (by decide) (fun c_7 => ?_) (fun c_7 => ?_)
          · refine lv_iconst (v := 2) hx hb dR_holds_76 (by decide) ?_
            refine va_put (D := (dC, dI)) (ci := 3) (v := .int 2) (ty := .int) (C := xR_R) (T := xF_R) (N := 20) hx hb hts xi_R xt_R xt_R_ok xn_R hown hK hP hD hS 0 rfl rfl 0 (by decide) (hts _ xk_646) (fun _ h9 => h9) rfl (by decide +kernel) rfl rfl (Nat.le_of_ble_eq_true rfl) dR_holds_77 (fun H locs hP hD hS => ?_)
            have hP : va_P (dC, dI) classes [(h0, .inr (3, [.int 2, .ref ta, .int zs, .int po, .int fa, .ref da, .ref ra, .ref la, .long we, .long le, .int pk, .int pm, .int co, .ref pa, .int pl, .ref xa, .ref ya, .int mb, .ref ea, .ref wa])), (ra, .inl (cI, 28, .inl rf))] H := hP
            have hD : va_D A [(h0, .inr (3, [.int 2, .ref ta, .int zs, .int po, .int fa, .ref da, .ref ra, .ref la, .long we, .long le, .int pk, .int pm, .int co, .ref pa, .int pl, .ref xa, .ref ya, .int mb, .ref ea, .ref wa])), (ra, .inl (cI, 28, .inl rf))] := hD
            refine lv_aload_n hx hb dR_holds_80 rfl (lv_at hl 1 rfl) ?_
            refine va_get (D := (dC, dI)) (ci := 3) (v := .int 2) (C := xR_R) (T := xF_R) (N := 20) hx hb hts xi_R hown hK hP 0 rfl rfl 0 (by decide) (hts _ xk_646) (fun _ h9 => h9) rfl dR_holds_81 ?_
            refine lv_if_le (tgt := 89) hx hb dR_holds_84 (by decide) (fun c_8 => ?_) (fun c_8 => ?_)
            · exact absurd c_8 (by decide)
            · refine lv_lconst (v := 0) hx hb dR_holds_87 (by decide) ?_
              have e_0 : gR_holds rf we kind a b angle part = (0 : Int64) := (if_neg c_1).trans ((if_pos c_2).trans ((if_neg c_4).trans ((if_pos c_6).trans (rfl))))
              have e_1 : gR_holds_0 rf we kind a b angle part = (2 : Int32) := (if_neg c_1).trans ((if_pos c_2).trans ((if_neg c_4).trans ((if_pos c_6).trans (rfl))))
              have hP9 := hP.sub (ws' := [(h0, .inr (3, [.int 2, .ref ta, .int zs, .int po, .int fa, .ref da, .ref ra, .ref la, .long we, .long le, .int pk, .int pm, .int co, .ref pa, .int pl, .ref xa, .ref ya, .int mb, .ref ea, .ref wa])), (ra, .inl (cI, 28, .inl rf))]) [0, 1] rfl
              have hD9 := hD.sub (ws' := [(h0, .inr (3, [.int 2, .ref ta, .int zs, .int po, .int fa, .ref da, .ref ra, .ref la, .long we, .long le, .int pk, .int pm, .int co, .ref pa, .int pl, .ref xa, .ref ya, .int mb, .ref ea, .ref wa])), (ra, .inl (cI, 28, .inl rf))]) [0, 1] (by decide) rfl
              exact W.lret (v := 0) hx hb hr (fun t ht hW => ⟨_, _, rfl, ⟨by first | rfl | (simp only [e_0, e_1]; try rfl), by first | rfl | (simp only [e_0, e_1]; try rfl)⟩, by rw [ht]; exact hP9, hD9, hS.F ht⟩) hS.2.2 dR_holds_88
          · exact absurd c_7 (by decide)
        · refine lv_iconst (v := 1) hx hb dR_holds_63 (by decide) ?_
          refine lv_goto (tgt := 77) hx hb dR_holds_64 (by decide) ?_
          refine va_put (D := (dC, dI)) (ci := 3) (v := .int 1) (ty := .int) (C := xR_R) (T := xF_R) (N := 20) hx hb hts xi_R xt_R xt_R_ok xn_R hown hK hP hD hS 0 rfl rfl 0 (by decide) (hts _ xk_646) (fun _ h9 => h9) rfl (by decide +kernel) rfl rfl (Nat.le_of_ble_eq_true rfl) dR_holds_77 (fun H locs hP hD hS => ?_)
          have hP : va_P (dC, dI) classes [(h0, .inr (3, [.int 1, .ref ta, .int zs, .int po, .int fa, .ref da, .ref ra, .ref la, .long we, .long le, .int pk, .int pm, .int co, .ref pa, .int pl, .ref xa, .ref ya, .int mb, .ref ea, .ref wa])), (ra, .inl (cI, 28, .inl rf))] H := hP
          have hD : va_D A [(h0, .inr (3, [.int 1, .ref ta, .int zs, .int po, .int fa, .ref da, .ref ra, .ref la, .long we, .long le, .int pk, .int pm, .int co, .ref pa, .int pl, .ref xa, .ref ya, .int mb, .ref ea, .ref wa])), (ra, .inl (cI, 28, .inl rf))] := hD
          refine lv_aload_n hx hb dR_holds_80 rfl (lv_at hl 1 rfl) ?_
          refine va_get (D := (dC, dI)) (ci := 3) (v := .int 1) (C := xR_R) (T := xF_R) (N := 20) hx hb hts xi_R hown hK hP 0 rfl rfl 0 (by decide) (hts _ xk_646) (fun _ h9 => h9) rfl dR_holds_81 ?_
          refine lv_if_le (tgt := 89) hx hb dR_holds_84 (by decide) (fun c_9 => ?_) (fun c_9 => ?_)
          · exact absurd c_9 (by decide)
          · refine lv_lconst (v := 0) hx hb dR_holds_87 (by decide) ?_
            have e_0 : gR_holds rf we kind a b angle part = (0 : Int64) := (if_neg c_1).trans ((if_pos c_2).trans ((if_neg c_4).trans ((if_neg c_6).trans (rfl))))
            have e_1 : gR_holds_0 rf we kind a b angle part = (1 : Int32) := (if_neg c_1).trans ((if_pos c_2).trans ((if_neg c_4).trans ((if_neg c_6).trans (rfl))))
            have hP9 := hP.sub (ws' := [(h0, .inr (3, [.int 1, .ref ta, .int zs, .int po, .int fa, .ref da, .ref ra, .ref la, .long we, .long le, .int pk, .int pm, .int co, .ref pa, .int pl, .ref xa, .ref ya, .int mb, .ref ea, .ref wa])), (ra, .inl (cI, 28, .inl rf))]) [0, 1] rfl
            have hD9 := hD.sub (ws' := [(h0, .inr (3, [.int 1, .ref ta, .int zs, .int po, .int fa, .ref da, .ref ra, .ref la, .long we, .long le, .int pk, .int pm, .int co, .ref pa, .int pl, .ref xa, .ref ya, .int mb, .ref ea, .ref wa])), (ra, .inl (cI, 28, .inl rf))]) [0, 1] (by decide) rfl
            exact W.lret (v := 0) hx hb hr (fun t ht hW => ⟨_, _, rfl, ⟨by first | rfl | (simp only [e_0, e_1]; try rfl), by first | rfl | (simp only [e_0, e_1]; try rfl)⟩, by rw [ht]; exact hP9, hD9, hS.F ht⟩) hS.2.2 dR_holds_88
  · have c_1 := xb_bi_t.mp c_1
    refine lv_iload_n hx hb dR_holds_12 rfl (lv_at hl 3 rfl) ?_
    refine lv_i2l hx hb dR_holds_13 rfl ?_
    refine lv_lconst (v := 1) hx hb dR_holds_14 (by decide) ?_
    refine lv_ldc2 (v := 1000) hx hb hown (hts _ xk_765) dR_holds_15 ?_
    refine xb_rd (W.runS (As := [.long b.toInt64, .long 1, .long 1000]) (rest := []) ⟨hx, hb, hml, hown, hts⟩ (cR_isIn l E b.toInt64 1 1000) (cwS 3 hts (xb_gi (List.forall_mem_cons.mpr ⟨xk_754, List.forall_mem_cons.mpr ⟨xk_755, List.forall_mem_cons.mpr ⟨xk_45, List.forall_mem_cons.mpr ⟨xk_756, fun _ h => absurd h List.not_mem_nil⟩⟩⟩⟩)) rfl rfl rfl (by decide +kernel) ⟨Nat.le_of_ble_eq_true rfl, Nat.le_of_ble_eq_true rfl⟩) ⟨fun _ _ _ _ q => q, fun U hU hW => ⟨rfl, xb_atS hAt hS hA0 hU hW, fun k q h => by simp at h⟩⟩ rfl rfl hl.1 rfl (lv_room (Nat.le_of_ble_eq_true rfl)) dR_holds_18 ⟨Nat.zero_le _, Nat.zero_le _⟩) ?_
    refine lv_if_eq (tgt := 41) hx hb dR_holds_21 (by decide) (fun c_10 => ?_) (fun c_10 => ?_)
    · have c_10 := xb_bi_f.mp c_10
      refine lv_iconst (v := 0) hx hb dR_holds_41 (by decide) ?_
      refine lv_istore (lv' := [(6, .int 0), (0, .ref h0), (1, .int kind), (2, .int a), (3, .int b), (4, .int angle), (5, .int part)]) hx hb dR_holds_42 hl (by decide) rfl (fun ls hl => ?_)
      refine lv_aload_n hx hb dR_holds_44 rfl (lv_at hl 1 rfl) ?_
      refine lv_iload_n hx hb dR_holds_45 rfl (lv_at hl 2 rfl) ?_
      refine xb_rd (W.runS (As := [.int kind]) (rest := [.ref h0]) ⟨hx, hb, hml, hown, hts⟩ (cR_isFour l E kind) (cwS 1 hts (xb_gi (List.forall_mem_cons.mpr ⟨xk_750, List.forall_mem_cons.mpr ⟨xk_751, List.forall_mem_cons.mpr ⟨xk_45, List.forall_mem_cons.mpr ⟨xk_752, fun _ h => absurd h List.not_mem_nil⟩⟩⟩⟩)) rfl rfl rfl (by decide +kernel) ⟨Nat.le_of_ble_eq_true rfl, Nat.le_of_ble_eq_true rfl⟩) ⟨fun _ _ _ _ q => q, fun U hU hW => ⟨rfl, xb_atS hAt hS hA0 hU hW, fun k q h => by simp at h⟩⟩ rfl rfl hl.1 rfl (lv_room (Nat.le_of_ble_eq_true rfl)) dR_holds_46 ⟨Nat.zero_le _, Nat.zero_le _⟩) ?_
      refine lv_if_eq (tgt := 63) hx hb dR_holds_49 (by decide) (fun c_11 => ?_) (fun c_11 => ?_)
      · have c_11 := xb_bi_f.mp c_11
        refine lv_iconst (v := 1) hx hb dR_holds_63 (by decide) ?_
        refine lv_goto (tgt := 77) hx hb dR_holds_64 (by decide) ?_
        refine va_put (D := (dC, dI)) (ci := 3) (v := .int 1) (ty := .int) (C := xR_R) (T := xF_R) (N := 20) hx hb hts xi_R xt_R xt_R_ok xn_R hown hK hP hD hS 0 rfl rfl 0 (by decide) (hts _ xk_646) (fun _ h9 => h9) rfl (by decide +kernel) rfl rfl (Nat.le_of_ble_eq_true rfl) dR_holds_77 (fun H locs hP hD hS => ?_)
        have hP : va_P (dC, dI) classes [(h0, .inr (3, [.int 1, .ref ta, .int zs, .int po, .int fa, .ref da, .ref ra, .ref la, .long we, .long le, .int pk, .int pm, .int co, .ref pa, .int pl, .ref xa, .ref ya, .int mb, .ref ea, .ref wa])), (ra, .inl (cI, 28, .inl rf))] H := hP
        have hD : va_D A [(h0, .inr (3, [.int 1, .ref ta, .int zs, .int po, .int fa, .ref da, .ref ra, .ref la, .long we, .long le, .int pk, .int pm, .int co, .ref pa, .int pl, .ref xa, .ref ya, .int mb, .ref ea, .ref wa])), (ra, .inl (cI, 28, .inl rf))] := hD
        refine lv_aload_n hx hb dR_holds_80 rfl (lv_at hl 1 rfl) ?_
        refine va_get (D := (dC, dI)) (ci := 3) (v := .int 1) (C := xR_R) (T := xF_R) (N := 20) hx hb hts xi_R hown hK hP 0 rfl rfl 0 (by decide) (hts _ xk_646) (fun _ h9 => h9) rfl dR_holds_81 ?_
        refine lv_if_le (tgt := 89) hx hb dR_holds_84 (by decide) (fun c_12 => ?_) (fun c_12 => ?_)
        · exact absurd c_12 (by decide)
        · refine lv_lconst (v := 0) hx hb dR_holds_87 (by decide) ?_
          have e_0 : gR_holds rf we kind a b angle part = (0 : Int64) := (if_pos c_1).trans ((if_neg c_10).trans ((if_neg c_11).trans (rfl)))
          have e_1 : gR_holds_0 rf we kind a b angle part = (1 : Int32) := (if_pos c_1).trans ((if_neg c_10).trans ((if_neg c_11).trans (rfl)))
          have hP9 := hP.sub (ws' := [(h0, .inr (3, [.int 1, .ref ta, .int zs, .int po, .int fa, .ref da, .ref ra, .ref la, .long we, .long le, .int pk, .int pm, .int co, .ref pa, .int pl, .ref xa, .ref ya, .int mb, .ref ea, .ref wa])), (ra, .inl (cI, 28, .inl rf))]) [0, 1] rfl
          have hD9 := hD.sub (ws' := [(h0, .inr (3, [.int 1, .ref ta, .int zs, .int po, .int fa, .ref da, .ref ra, .ref la, .long we, .long le, .int pk, .int pm, .int co, .ref pa, .int pl, .ref xa, .ref ya, .int mb, .ref ea, .ref wa])), (ra, .inl (cI, 28, .inl rf))]) [0, 1] (by decide) rfl
          exact W.lret (v := 0) hx hb hr (fun t ht hW => ⟨_, _, rfl, ⟨by first | rfl | (simp only [e_0, e_1]; try rfl), by first | rfl | (simp only [e_0, e_1]; try rfl)⟩, by rw [ht]; exact hP9, hD9, hS.F ht⟩) hS.2.2 dR_holds_88
      · have c_11 := xb_bi_t.mp c_11
        refine lv_iload hx hb dR_holds_52 (lv_at hl 6 rfl) ?_
        refine lv_if_lt (tgt := 63) hx hb dR_holds_54 (by decide) (fun c_13 => ?_) (fun c_13 => ?_)
        · refine lv_iconst (v := 1) hx hb dR_holds_63 (by decide) ?_
          refine lv_goto (tgt := 77) hx hb dR_holds_64 (by decide) ?_
          refine va_put (D := (dC, dI)) (ci := 3) (v := .int 1) (ty := .int) (C := xR_R) (T := xF_R) (N := 20) hx hb hts xi_R xt_R xt_R_ok xn_R hown hK hP hD hS 0 rfl rfl 0 (by decide) (hts _ xk_646) (fun _ h9 => h9) rfl (by decide +kernel) rfl rfl (Nat.le_of_ble_eq_true rfl) dR_holds_77 (fun H locs hP hD hS => ?_)
          have hP : va_P (dC, dI) classes [(h0, .inr (3, [.int 1, .ref ta, .int zs, .int po, .int fa, .ref da, .ref ra, .ref la, .long we, .long le, .int pk, .int pm, .int co, .ref pa, .int pl, .ref xa, .ref ya, .int mb, .ref ea, .ref wa])), (ra, .inl (cI, 28, .inl rf))] H := hP
          have hD : va_D A [(h0, .inr (3, [.int 1, .ref ta, .int zs, .int po, .int fa, .ref da, .ref ra, .ref la, .long we, .long le, .int pk, .int pm, .int co, .ref pa, .int pl, .ref xa, .ref ya, .int mb, .ref ea, .ref wa])), (ra, .inl (cI, 28, .inl rf))] := hD
          refine lv_aload_n hx hb dR_holds_80 rfl (lv_at hl 1 rfl) ?_
          refine va_get (D := (dC, dI)) (ci := 3) (v := .int 1) (C := xR_R) (T := xF_R) (N := 20) hx hb hts xi_R hown hK hP 0 rfl rfl 0 (by decide) (hts _ xk_646) (fun _ h9 => h9) rfl dR_holds_81 ?_
          refine lv_if_le (tgt := 89) hx hb dR_holds_84 (by decide) (fun c_14 => ?_) (fun c_14 => ?_)
          · exact absurd c_14 (by decide)
          · refine lv_lconst (v := 0) hx hb dR_holds_87 (by decide) ?_
            have e_0 : gR_holds rf we kind a b angle part = (0 : Int64) := (if_pos c_1).trans ((if_neg c_10).trans ((if_pos c_11).trans ((if_pos c_13).trans (rfl))))
            have e_1 : gR_holds_0 rf we kind a b angle part = (1 : Int32) := (if_pos c_1).trans ((if_neg c_10).trans ((if_pos c_11).trans ((if_pos c_13).trans (rfl))))
            have hP9 := hP.sub (ws' := [(h0, .inr (3, [.int 1, .ref ta, .int zs, .int po, .int fa, .ref da, .ref ra, .ref la, .long we, .long le, .int pk, .int pm, .int co, .ref pa, .int pl, .ref xa, .ref ya, .int mb, .ref ea, .ref wa])), (ra, .inl (cI, 28, .inl rf))]) [0, 1] rfl
            have hD9 := hD.sub (ws' := [(h0, .inr (3, [.int 1, .ref ta, .int zs, .int po, .int fa, .ref da, .ref ra, .ref la, .long we, .long le, .int pk, .int pm, .int co, .ref pa, .int pl, .ref xa, .ref ya, .int mb, .ref ea, .ref wa])), (ra, .inl (cI, 28, .inl rf))]) [0, 1] (by decide) rfl
            exact W.lret (v := 0) hx hb hr (fun t ht hW => ⟨_, _, rfl, ⟨by first | rfl | (simp only [e_0, e_1]; try rfl), by first | rfl | (simp only [e_0, e_1]; try rfl)⟩, by rw [ht]; exact hP9, hD9, hS.F ht⟩) hS.2.2 dR_holds_88
        · refine lv_iload hx hb dR_holds_57 (lv_at hl 6 rfl) ?_
          refine lv_iconst (v := 1) hx hb dR_holds_59 (by decide) ?_
          refine lv_icmp_le (tgt := 67) hx hb dR_holds_60 (by decide) (fun c_15 => ?_) (fun c_15 => ?_)
          · refine lv_iload hx hb dR_holds_67 (lv_at hl 0 rfl) ?_
            refine lv_if_eq (tgt := 76) hx hb dR_holds_69 (by decide) (fun c_16 => ?_) (fun c_16 => ?_)
            · refine lv_iconst (v := 2) hx hb dR_holds_76 (by decide) ?_
              refine va_put (D := (dC, dI)) (ci := 3) (v := .int 2) (ty := .int) (C := xR_R) (T := xF_R) (N := 20) hx hb hts xi_R xt_R xt_R_ok xn_R hown hK hP hD hS 0 rfl rfl 0 (by decide) (hts _ xk_646) (fun _ h9 => h9) rfl (by decide +kernel) rfl rfl (Nat.le_of_ble_eq_true rfl) dR_holds_77 (fun H locs hP hD hS => ?_)
              have hP : va_P (dC, dI) classes [(h0, .inr (3, [.int 2, .ref ta, .int zs, .int po, .int fa, .ref da, .ref ra, .ref la, .long we, .long le, .int pk, .int pm, .int co, .ref pa, .int pl, .ref xa, .ref ya, .int mb, .ref ea, .ref wa])), (ra, .inl (cI, 28, .inl rf))] H := hP
              have hD : va_D A [(h0, .inr (3, [.int 2, .ref ta, .int zs, .int po, .int fa, .ref da, .ref ra, .ref la, .long we, .long le, .int pk, .int pm, .int co, .ref pa, .int pl, .ref xa, .ref ya, .int mb, .ref ea, .ref wa])), (ra, .inl (cI, 28, .inl rf))] := hD
              refine lv_aload_n hx hb dR_holds_80 rfl (lv_at hl 1 rfl) ?_
              refine va_get (D := (dC, dI)) (ci := 3) (v := .int 2) (C := xR_R) (T := xF_R) (N := 20) hx hb hts xi_R hown hK hP 0 rfl rfl 0 (by decide) (hts _ xk_646) (fun _ h9 => h9) rfl dR_holds_81 ?_
              refine lv_if_le (tgt := 89) hx hb dR_holds_84 (by decide) (fun c_17 => ?_) (fun c_17 => ?_)
              · exact absurd c_17 (by decide)
              · refine lv_lconst (v := 0) hx hb dR_holds_87 (by decide) ?_
                have e_0 : gR_holds rf we kind a b angle part = (0 : Int64) := (if_pos c_1).trans ((if_neg c_10).trans ((if_pos c_11).trans ((if_neg c_13).trans ((if_pos c_15).trans (rfl)))))
                have e_1 : gR_holds_0 rf we kind a b angle part = (2 : Int32) := (if_pos c_1).trans ((if_neg c_10).trans ((if_pos c_11).trans ((if_neg c_13).trans ((if_pos c_15).trans (rfl)))))
                have hP9 := hP.sub (ws' := [(h0, .inr (3, [.int 2, .ref ta, .int zs, .int po, .int fa, .ref da, .ref ra, .ref la, .long we, .long le, .int pk, .int pm, .int co, .ref pa, .int pl, .ref xa, .ref ya, .int mb, .ref ea, .ref wa])), (ra, .inl (cI, 28, .inl rf))]) [0, 1] rfl
                have hD9 := hD.sub (ws' := [(h0, .inr (3, [.int 2, .ref ta, .int zs, .int po, .int fa, .ref da, .ref ra, .ref la, .long we, .long le, .int pk, .int pm, .int co, .ref pa, .int pl, .ref xa, .ref ya, .int mb, .ref ea, .ref wa])), (ra, .inl (cI, 28, .inl rf))]) [0, 1] (by decide) rfl
                exact W.lret (v := 0) hx hb hr (fun t ht hW => ⟨_, _, rfl, ⟨by first | rfl | (simp only [e_0, e_1]; try rfl), by first | rfl | (simp only [e_0, e_1]; try rfl)⟩, by rw [ht]; exact hP9, hD9, hS.F ht⟩) hS.2.2 dR_holds_88
            · exact absurd c_16 (by decide)
          · refine lv_iconst (v := 1) hx hb dR_holds_63 (by decide) ?_
            refine lv_goto (tgt := 77) hx hb dR_holds_64 (by decide) ?_
            refine va_put (D := (dC, dI)) (ci := 3) (v := .int 1) (ty := .int) (C := xR_R) (T := xF_R) (N := 20) hx hb hts xi_R xt_R xt_R_ok xn_R hown hK hP hD hS 0 rfl rfl 0 (by decide) (hts _ xk_646) (fun _ h9 => h9) rfl (by decide +kernel) rfl rfl (Nat.le_of_ble_eq_true rfl) dR_holds_77 (fun H locs hP hD hS => ?_)
            have hP : va_P (dC, dI) classes [(h0, .inr (3, [.int 1, .ref ta, .int zs, .int po, .int fa, .ref da, .ref ra, .ref la, .long we, .long le, .int pk, .int pm, .int co, .ref pa, .int pl, .ref xa, .ref ya, .int mb, .ref ea, .ref wa])), (ra, .inl (cI, 28, .inl rf))] H := hP
            have hD : va_D A [(h0, .inr (3, [.int 1, .ref ta, .int zs, .int po, .int fa, .ref da, .ref ra, .ref la, .long we, .long le, .int pk, .int pm, .int co, .ref pa, .int pl, .ref xa, .ref ya, .int mb, .ref ea, .ref wa])), (ra, .inl (cI, 28, .inl rf))] := hD
            refine lv_aload_n hx hb dR_holds_80 rfl (lv_at hl 1 rfl) ?_
            refine va_get (D := (dC, dI)) (ci := 3) (v := .int 1) (C := xR_R) (T := xF_R) (N := 20) hx hb hts xi_R hown hK hP 0 rfl rfl 0 (by decide) (hts _ xk_646) (fun _ h9 => h9) rfl dR_holds_81 ?_
            refine lv_if_le (tgt := 89) hx hb dR_holds_84 (by decide) (fun c_18 => ?_) (fun c_18 => ?_)
            · exact absurd c_18 (by decide)
            · refine lv_lconst (v := 0) hx hb dR_holds_87 (by decide) ?_
              have e_0 : gR_holds rf we kind a b angle part = (0 : Int64) := (if_pos c_1).trans ((if_neg c_10).trans ((if_pos c_11).trans ((if_neg c_13).trans ((if_neg c_15).trans (rfl)))))
              have e_1 : gR_holds_0 rf we kind a b angle part = (1 : Int32) := (if_pos c_1).trans ((if_neg c_10).trans ((if_pos c_11).trans ((if_neg c_13).trans ((if_neg c_15).trans (rfl)))))
              have hP9 := hP.sub (ws' := [(h0, .inr (3, [.int 1, .ref ta, .int zs, .int po, .int fa, .ref da, .ref ra, .ref la, .long we, .long le, .int pk, .int pm, .int co, .ref pa, .int pl, .ref xa, .ref ya, .int mb, .ref ea, .ref wa])), (ra, .inl (cI, 28, .inl rf))]) [0, 1] rfl
              have hD9 := hD.sub (ws' := [(h0, .inr (3, [.int 1, .ref ta, .int zs, .int po, .int fa, .ref da, .ref ra, .ref la, .long we, .long le, .int pk, .int pm, .int co, .ref pa, .int pl, .ref xa, .ref ya, .int mb, .ref ea, .ref wa])), (ra, .inl (cI, 28, .inl rf))]) [0, 1] (by decide) rfl
              exact W.lret (v := 0) hx hb hr (fun t ht hW => ⟨_, _, rfl, ⟨by first | rfl | (simp only [e_0, e_1]; try rfl), by first | rfl | (simp only [e_0, e_1]; try rfl)⟩, by rw [ht]; exact hP9, hD9, hS.F ht⟩) hS.2.2 dR_holds_88
    · have c_10 := xb_bi_t.mp c_10
      refine lv_iload hx hb dR_holds_24 (lv_at hl 4 rfl) ?_
      refine lv_i2l hx hb dR_holds_26 rfl ?_
      refine lv_lconst (v := 0) hx hb dR_holds_27 (by decide) ?_
      refine lv_ldc2 (v := 90) hx hb hown (hts _ xk_766) dR_holds_28 ?_
      refine xb_rd (W.runS (As := [.long angle.toInt64, .long 0, .long 90]) (rest := []) ⟨hx, hb, hml, hown, hts⟩ (cR_isIn l E angle.toInt64 0 90) (cwS 3 hts (xb_gi (List.forall_mem_cons.mpr ⟨xk_754, List.forall_mem_cons.mpr ⟨xk_755, List.forall_mem_cons.mpr ⟨xk_45, List.forall_mem_cons.mpr ⟨xk_756, fun _ h => absurd h List.not_mem_nil⟩⟩⟩⟩)) rfl rfl rfl (by decide +kernel) ⟨Nat.le_of_ble_eq_true rfl, Nat.le_of_ble_eq_true rfl⟩) ⟨fun _ _ _ _ q => q, fun U hU hW => ⟨rfl, xb_atS hAt hS hA0 hU hW, fun k q h => by simp at h⟩⟩ rfl rfl hl.1 rfl (lv_room (Nat.le_of_ble_eq_true rfl)) dR_holds_31 ⟨Nat.zero_le _, Nat.zero_le _⟩) ?_
      refine lv_if_eq (tgt := 41) hx hb dR_holds_34 (by decide) (fun c_19 => ?_) (fun c_19 => ?_)
      · have c_19 := xb_bi_f.mp c_19
        refine lv_iconst (v := 0) hx hb dR_holds_41 (by decide) ?_
        refine lv_istore (lv' := [(6, .int 0), (0, .ref h0), (1, .int kind), (2, .int a), (3, .int b), (4, .int angle), (5, .int part)]) hx hb dR_holds_42 hl (by decide) rfl (fun ls hl => ?_)
        refine lv_aload_n hx hb dR_holds_44 rfl (lv_at hl 1 rfl) ?_
        refine lv_iload_n hx hb dR_holds_45 rfl (lv_at hl 2 rfl) ?_
        refine xb_rd (W.runS (As := [.int kind]) (rest := [.ref h0]) ⟨hx, hb, hml, hown, hts⟩ (cR_isFour l E kind) (cwS 1 hts (xb_gi (List.forall_mem_cons.mpr ⟨xk_750, List.forall_mem_cons.mpr ⟨xk_751, List.forall_mem_cons.mpr ⟨xk_45, List.forall_mem_cons.mpr ⟨xk_752, fun _ h => absurd h List.not_mem_nil⟩⟩⟩⟩)) rfl rfl rfl (by decide +kernel) ⟨Nat.le_of_ble_eq_true rfl, Nat.le_of_ble_eq_true rfl⟩) ⟨fun _ _ _ _ q => q, fun U hU hW => ⟨rfl, xb_atS hAt hS hA0 hU hW, fun k q h => by simp at h⟩⟩ rfl rfl hl.1 rfl (lv_room (Nat.le_of_ble_eq_true rfl)) dR_holds_46 ⟨Nat.zero_le _, Nat.zero_le _⟩) ?_
        refine lv_if_eq (tgt := 63) hx hb dR_holds_49 (by decide) (fun c_20 => ?_) (fun c_20 => ?_)
        · have c_20 := xb_bi_f.mp c_20
          refine lv_iconst (v := 1) hx hb dR_holds_63 (by decide) ?_
          refine lv_goto (tgt := 77) hx hb dR_holds_64 (by decide) ?_
          refine va_put (D := (dC, dI)) (ci := 3) (v := .int 1) (ty := .int) (C := xR_R) (T := xF_R) (N := 20) hx hb hts xi_R xt_R xt_R_ok xn_R hown hK hP hD hS 0 rfl rfl 0 (by decide) (hts _ xk_646) (fun _ h9 => h9) rfl (by decide +kernel) rfl rfl (Nat.le_of_ble_eq_true rfl) dR_holds_77 (fun H locs hP hD hS => ?_)
          have hP : va_P (dC, dI) classes [(h0, .inr (3, [.int 1, .ref ta, .int zs, .int po, .int fa, .ref da, .ref ra, .ref la, .long we, .long le, .int pk, .int pm, .int co, .ref pa, .int pl, .ref xa, .ref ya, .int mb, .ref ea, .ref wa])), (ra, .inl (cI, 28, .inl rf))] H := hP
          have hD : va_D A [(h0, .inr (3, [.int 1, .ref ta, .int zs, .int po, .int fa, .ref da, .ref ra, .ref la, .long we, .long le, .int pk, .int pm, .int co, .ref pa, .int pl, .ref xa, .ref ya, .int mb, .ref ea, .ref wa])), (ra, .inl (cI, 28, .inl rf))] := hD
          refine lv_aload_n hx hb dR_holds_80 rfl (lv_at hl 1 rfl) ?_
          refine va_get (D := (dC, dI)) (ci := 3) (v := .int 1) (C := xR_R) (T := xF_R) (N := 20) hx hb hts xi_R hown hK hP 0 rfl rfl 0 (by decide) (hts _ xk_646) (fun _ h9 => h9) rfl dR_holds_81 ?_
          refine lv_if_le (tgt := 89) hx hb dR_holds_84 (by decide) (fun c_21 => ?_) (fun c_21 => ?_)
          · exact absurd c_21 (by decide)
          · refine lv_lconst (v := 0) hx hb dR_holds_87 (by decide) ?_
            have e_0 : gR_holds rf we kind a b angle part = (0 : Int64) := (if_pos c_1).trans ((if_pos c_10).trans ((if_neg c_19).trans ((if_neg c_20).trans (rfl))))
            have e_1 : gR_holds_0 rf we kind a b angle part = (1 : Int32) := (if_pos c_1).trans ((if_pos c_10).trans ((if_neg c_19).trans ((if_neg c_20).trans (rfl))))
            have hP9 := hP.sub (ws' := [(h0, .inr (3, [.int 1, .ref ta, .int zs, .int po, .int fa, .ref da, .ref ra, .ref la, .long we, .long le, .int pk, .int pm, .int co, .ref pa, .int pl, .ref xa, .ref ya, .int mb, .ref ea, .ref wa])), (ra, .inl (cI, 28, .inl rf))]) [0, 1] rfl
            have hD9 := hD.sub (ws' := [(h0, .inr (3, [.int 1, .ref ta, .int zs, .int po, .int fa, .ref da, .ref ra, .ref la, .long we, .long le, .int pk, .int pm, .int co, .ref pa, .int pl, .ref xa, .ref ya, .int mb, .ref ea, .ref wa])), (ra, .inl (cI, 28, .inl rf))]) [0, 1] (by decide) rfl
            exact W.lret (v := 0) hx hb hr (fun t ht hW => ⟨_, _, rfl, ⟨by first | rfl | (simp only [e_0, e_1]; try rfl), by first | rfl | (simp only [e_0, e_1]; try rfl)⟩, by rw [ht]; exact hP9, hD9, hS.F ht⟩) hS.2.2 dR_holds_88
        · have c_20 := xb_bi_t.mp c_20
          refine lv_iload hx hb dR_holds_52 (lv_at hl 6 rfl) ?_
          refine lv_if_lt (tgt := 63) hx hb dR_holds_54 (by decide) (fun c_22 => ?_) (fun c_22 => ?_)
          · refine lv_iconst (v := 1) hx hb dR_holds_63 (by decide) ?_
            refine lv_goto (tgt := 77) hx hb dR_holds_64 (by decide) ?_
            refine va_put (D := (dC, dI)) (ci := 3) (v := .int 1) (ty := .int) (C := xR_R) (T := xF_R) (N := 20) hx hb hts xi_R xt_R xt_R_ok xn_R hown hK hP hD hS 0 rfl rfl 0 (by decide) (hts _ xk_646) (fun _ h9 => h9) rfl (by decide +kernel) rfl rfl (Nat.le_of_ble_eq_true rfl) dR_holds_77 (fun H locs hP hD hS => ?_)
            have hP : va_P (dC, dI) classes [(h0, .inr (3, [.int 1, .ref ta, .int zs, .int po, .int fa, .ref da, .ref ra, .ref la, .long we, .long le, .int pk, .int pm, .int co, .ref pa, .int pl, .ref xa, .ref ya, .int mb, .ref ea, .ref wa])), (ra, .inl (cI, 28, .inl rf))] H := hP
            have hD : va_D A [(h0, .inr (3, [.int 1, .ref ta, .int zs, .int po, .int fa, .ref da, .ref ra, .ref la, .long we, .long le, .int pk, .int pm, .int co, .ref pa, .int pl, .ref xa, .ref ya, .int mb, .ref ea, .ref wa])), (ra, .inl (cI, 28, .inl rf))] := hD
            refine lv_aload_n hx hb dR_holds_80 rfl (lv_at hl 1 rfl) ?_
            refine va_get (D := (dC, dI)) (ci := 3) (v := .int 1) (C := xR_R) (T := xF_R) (N := 20) hx hb hts xi_R hown hK hP 0 rfl rfl 0 (by decide) (hts _ xk_646) (fun _ h9 => h9) rfl dR_holds_81 ?_
            refine lv_if_le (tgt := 89) hx hb dR_holds_84 (by decide) (fun c_23 => ?_) (fun c_23 => ?_)
            · exact absurd c_23 (by decide)
            · refine lv_lconst (v := 0) hx hb dR_holds_87 (by decide) ?_
              have e_0 : gR_holds rf we kind a b angle part = (0 : Int64) := (if_pos c_1).trans ((if_pos c_10).trans ((if_neg c_19).trans ((if_pos c_20).trans ((if_pos c_22).trans (rfl)))))
              have e_1 : gR_holds_0 rf we kind a b angle part = (1 : Int32) := (if_pos c_1).trans ((if_pos c_10).trans ((if_neg c_19).trans ((if_pos c_20).trans ((if_pos c_22).trans (rfl)))))
              have hP9 := hP.sub (ws' := [(h0, .inr (3, [.int 1, .ref ta, .int zs, .int po, .int fa, .ref da, .ref ra, .ref la, .long we, .long le, .int pk, .int pm, .int co, .ref pa, .int pl, .ref xa, .ref ya, .int mb, .ref ea, .ref wa])), (ra, .inl (cI, 28, .inl rf))]) [0, 1] rfl
              have hD9 := hD.sub (ws' := [(h0, .inr (3, [.int 1, .ref ta, .int zs, .int po, .int fa, .ref da, .ref ra, .ref la, .long we, .long le, .int pk, .int pm, .int co, .ref pa, .int pl, .ref xa, .ref ya, .int mb, .ref ea, .ref wa])), (ra, .inl (cI, 28, .inl rf))]) [0, 1] (by decide) rfl
              exact W.lret (v := 0) hx hb hr (fun t ht hW => ⟨_, _, rfl, ⟨by first | rfl | (simp only [e_0, e_1]; try rfl), by first | rfl | (simp only [e_0, e_1]; try rfl)⟩, by rw [ht]; exact hP9, hD9, hS.F ht⟩) hS.2.2 dR_holds_88
          · refine lv_iload hx hb dR_holds_57 (lv_at hl 6 rfl) ?_
            refine lv_iconst (v := 1) hx hb dR_holds_59 (by decide) ?_
            refine lv_icmp_le (tgt := 67) hx hb dR_holds_60 (by decide) (fun c_24 => ?_) (fun c_24 => ?_)
            · refine lv_iload hx hb dR_holds_67 (lv_at hl 0 rfl) ?_
              refine lv_if_eq (tgt := 76) hx hb dR_holds_69 (by decide) (fun c_25 => ?_) (fun c_25 => ?_)
              · refine lv_iconst (v := 2) hx hb dR_holds_76 (by decide) ?_
                refine va_put (D := (dC, dI)) (ci := 3) (v := .int 2) (ty := .int) (C := xR_R) (T := xF_R) (N := 20) hx hb hts xi_R xt_R xt_R_ok xn_R hown hK hP hD hS 0 rfl rfl 0 (by decide) (hts _ xk_646) (fun _ h9 => h9) rfl (by decide +kernel) rfl rfl (Nat.le_of_ble_eq_true rfl) dR_holds_77 (fun H locs hP hD hS => ?_)
                have hP : va_P (dC, dI) classes [(h0, .inr (3, [.int 2, .ref ta, .int zs, .int po, .int fa, .ref da, .ref ra, .ref la, .long we, .long le, .int pk, .int pm, .int co, .ref pa, .int pl, .ref xa, .ref ya, .int mb, .ref ea, .ref wa])), (ra, .inl (cI, 28, .inl rf))] H := hP
                have hD : va_D A [(h0, .inr (3, [.int 2, .ref ta, .int zs, .int po, .int fa, .ref da, .ref ra, .ref la, .long we, .long le, .int pk, .int pm, .int co, .ref pa, .int pl, .ref xa, .ref ya, .int mb, .ref ea, .ref wa])), (ra, .inl (cI, 28, .inl rf))] := hD
                refine lv_aload_n hx hb dR_holds_80 rfl (lv_at hl 1 rfl) ?_
                refine va_get (D := (dC, dI)) (ci := 3) (v := .int 2) (C := xR_R) (T := xF_R) (N := 20) hx hb hts xi_R hown hK hP 0 rfl rfl 0 (by decide) (hts _ xk_646) (fun _ h9 => h9) rfl dR_holds_81 ?_
                refine lv_if_le (tgt := 89) hx hb dR_holds_84 (by decide) (fun c_26 => ?_) (fun c_26 => ?_)
                · exact absurd c_26 (by decide)
                · refine lv_lconst (v := 0) hx hb dR_holds_87 (by decide) ?_
                  have e_0 : gR_holds rf we kind a b angle part = (0 : Int64) := (if_pos c_1).trans ((if_pos c_10).trans ((if_neg c_19).trans ((if_pos c_20).trans ((if_neg c_22).trans ((if_pos c_24).trans (rfl))))))
                  have e_1 : gR_holds_0 rf we kind a b angle part = (2 : Int32) := (if_pos c_1).trans ((if_pos c_10).trans ((if_neg c_19).trans ((if_pos c_20).trans ((if_neg c_22).trans ((if_pos c_24).trans (rfl))))))
                  have hP9 := hP.sub (ws' := [(h0, .inr (3, [.int 2, .ref ta, .int zs, .int po, .int fa, .ref da, .ref ra, .ref la, .long we, .long le, .int pk, .int pm, .int co, .ref pa, .int pl, .ref xa, .ref ya, .int mb, .ref ea, .ref wa])), (ra, .inl (cI, 28, .inl rf))]) [0, 1] rfl
                  have hD9 := hD.sub (ws' := [(h0, .inr (3, [.int 2, .ref ta, .int zs, .int po, .int fa, .ref da, .ref ra, .ref la, .long we, .long le, .int pk, .int pm, .int co, .ref pa, .int pl, .ref xa, .ref ya, .int mb, .ref ea, .ref wa])), (ra, .inl (cI, 28, .inl rf))]) [0, 1] (by decide) rfl
                  exact W.lret (v := 0) hx hb hr (fun t ht hW => ⟨_, _, rfl, ⟨by first | rfl | (simp only [e_0, e_1]; try rfl), by first | rfl | (simp only [e_0, e_1]; try rfl)⟩, by rw [ht]; exact hP9, hD9, hS.F ht⟩) hS.2.2 dR_holds_88
              · exact absurd c_25 (by decide)
            · refine lv_iconst (v := 1) hx hb dR_holds_63 (by decide) ?_
              refine lv_goto (tgt := 77) hx hb dR_holds_64 (by decide) ?_
              refine va_put (D := (dC, dI)) (ci := 3) (v := .int 1) (ty := .int) (C := xR_R) (T := xF_R) (N := 20) hx hb hts xi_R xt_R xt_R_ok xn_R hown hK hP hD hS 0 rfl rfl 0 (by decide) (hts _ xk_646) (fun _ h9 => h9) rfl (by decide +kernel) rfl rfl (Nat.le_of_ble_eq_true rfl) dR_holds_77 (fun H locs hP hD hS => ?_)
              have hP : va_P (dC, dI) classes [(h0, .inr (3, [.int 1, .ref ta, .int zs, .int po, .int fa, .ref da, .ref ra, .ref la, .long we, .long le, .int pk, .int pm, .int co, .ref pa, .int pl, .ref xa, .ref ya, .int mb, .ref ea, .ref wa])), (ra, .inl (cI, 28, .inl rf))] H := hP
              have hD : va_D A [(h0, .inr (3, [.int 1, .ref ta, .int zs, .int po, .int fa, .ref da, .ref ra, .ref la, .long we, .long le, .int pk, .int pm, .int co, .ref pa, .int pl, .ref xa, .ref ya, .int mb, .ref ea, .ref wa])), (ra, .inl (cI, 28, .inl rf))] := hD
              refine lv_aload_n hx hb dR_holds_80 rfl (lv_at hl 1 rfl) ?_
              refine va_get (D := (dC, dI)) (ci := 3) (v := .int 1) (C := xR_R) (T := xF_R) (N := 20) hx hb hts xi_R hown hK hP 0 rfl rfl 0 (by decide) (hts _ xk_646) (fun _ h9 => h9) rfl dR_holds_81 ?_
              refine lv_if_le (tgt := 89) hx hb dR_holds_84 (by decide) (fun c_27 => ?_) (fun c_27 => ?_)
              · exact absurd c_27 (by decide)
              · refine lv_lconst (v := 0) hx hb dR_holds_87 (by decide) ?_
                have e_0 : gR_holds rf we kind a b angle part = (0 : Int64) := (if_pos c_1).trans ((if_pos c_10).trans ((if_neg c_19).trans ((if_pos c_20).trans ((if_neg c_22).trans ((if_neg c_24).trans (rfl))))))
                have e_1 : gR_holds_0 rf we kind a b angle part = (1 : Int32) := (if_pos c_1).trans ((if_pos c_10).trans ((if_neg c_19).trans ((if_pos c_20).trans ((if_neg c_22).trans ((if_neg c_24).trans (rfl))))))
                have hP9 := hP.sub (ws' := [(h0, .inr (3, [.int 1, .ref ta, .int zs, .int po, .int fa, .ref da, .ref ra, .ref la, .long we, .long le, .int pk, .int pm, .int co, .ref pa, .int pl, .ref xa, .ref ya, .int mb, .ref ea, .ref wa])), (ra, .inl (cI, 28, .inl rf))]) [0, 1] rfl
                have hD9 := hD.sub (ws' := [(h0, .inr (3, [.int 1, .ref ta, .int zs, .int po, .int fa, .ref da, .ref ra, .ref la, .long we, .long le, .int pk, .int pm, .int co, .ref pa, .int pl, .ref xa, .ref ya, .int mb, .ref ea, .ref wa])), (ra, .inl (cI, 28, .inl rf))]) [0, 1] (by decide) rfl
                exact W.lret (v := 0) hx hb hr (fun t ht hW => ⟨_, _, rfl, ⟨by first | rfl | (simp only [e_0, e_1]; try rfl), by first | rfl | (simp only [e_0, e_1]; try rfl)⟩, by rw [ht]; exact hP9, hD9, hS.F ht⟩) hS.2.2 dR_holds_88
      · have c_19 := xb_bi_t.mp c_19
        refine lv_iconst (v := 1) hx hb dR_holds_37 (by decide) ?_
        refine lv_goto (tgt := 42) hx hb dR_holds_38 (by decide) ?_
        refine lv_istore (lv' := [(6, .int 1), (0, .ref h0), (1, .int kind), (2, .int a), (3, .int b), (4, .int angle), (5, .int part)]) hx hb dR_holds_42 hl (by decide) rfl (fun ls hl => ?_)
        refine lv_aload_n hx hb dR_holds_44 rfl (lv_at hl 1 rfl) ?_
        refine lv_iload_n hx hb dR_holds_45 rfl (lv_at hl 2 rfl) ?_
        refine xb_rd (W.runS (As := [.int kind]) (rest := [.ref h0]) ⟨hx, hb, hml, hown, hts⟩ (cR_isFour l E kind) (cwS 1 hts (xb_gi (List.forall_mem_cons.mpr ⟨xk_750, List.forall_mem_cons.mpr ⟨xk_751, List.forall_mem_cons.mpr ⟨xk_45, List.forall_mem_cons.mpr ⟨xk_752, fun _ h => absurd h List.not_mem_nil⟩⟩⟩⟩)) rfl rfl rfl (by decide +kernel) ⟨Nat.le_of_ble_eq_true rfl, Nat.le_of_ble_eq_true rfl⟩) ⟨fun _ _ _ _ q => q, fun U hU hW => ⟨rfl, xb_atS hAt hS hA0 hU hW, fun k q h => by simp at h⟩⟩ rfl rfl hl.1 rfl (lv_room (Nat.le_of_ble_eq_true rfl)) dR_holds_46 ⟨Nat.zero_le _, Nat.zero_le _⟩) ?_
        refine lv_if_eq (tgt := 63) hx hb dR_holds_49 (by decide) (fun c_28 => ?_) (fun c_28 => ?_)
        · have c_28 := xb_bi_f.mp c_28
          refine lv_iconst (v := 1) hx hb dR_holds_63 (by decide) ?_
          refine lv_goto (tgt := 77) hx hb dR_holds_64 (by decide) ?_
          refine va_put (D := (dC, dI)) (ci := 3) (v := .int 1) (ty := .int) (C := xR_R) (T := xF_R) (N := 20) hx hb hts xi_R xt_R xt_R_ok xn_R hown hK hP hD hS 0 rfl rfl 0 (by decide) (hts _ xk_646) (fun _ h9 => h9) rfl (by decide +kernel) rfl rfl (Nat.le_of_ble_eq_true rfl) dR_holds_77 (fun H locs hP hD hS => ?_)
          have hP : va_P (dC, dI) classes [(h0, .inr (3, [.int 1, .ref ta, .int zs, .int po, .int fa, .ref da, .ref ra, .ref la, .long we, .long le, .int pk, .int pm, .int co, .ref pa, .int pl, .ref xa, .ref ya, .int mb, .ref ea, .ref wa])), (ra, .inl (cI, 28, .inl rf))] H := hP
          have hD : va_D A [(h0, .inr (3, [.int 1, .ref ta, .int zs, .int po, .int fa, .ref da, .ref ra, .ref la, .long we, .long le, .int pk, .int pm, .int co, .ref pa, .int pl, .ref xa, .ref ya, .int mb, .ref ea, .ref wa])), (ra, .inl (cI, 28, .inl rf))] := hD
          refine lv_aload_n hx hb dR_holds_80 rfl (lv_at hl 1 rfl) ?_
          refine va_get (D := (dC, dI)) (ci := 3) (v := .int 1) (C := xR_R) (T := xF_R) (N := 20) hx hb hts xi_R hown hK hP 0 rfl rfl 0 (by decide) (hts _ xk_646) (fun _ h9 => h9) rfl dR_holds_81 ?_
          refine lv_if_le (tgt := 89) hx hb dR_holds_84 (by decide) (fun c_29 => ?_) (fun c_29 => ?_)
          · exact absurd c_29 (by decide)
          · refine lv_lconst (v := 0) hx hb dR_holds_87 (by decide) ?_
            have e_0 : gR_holds rf we kind a b angle part = (0 : Int64) := (if_pos c_1).trans ((if_pos c_10).trans ((if_pos c_19).trans ((if_neg c_28).trans (rfl))))
            have e_1 : gR_holds_0 rf we kind a b angle part = (1 : Int32) := (if_pos c_1).trans ((if_pos c_10).trans ((if_pos c_19).trans ((if_neg c_28).trans (rfl))))
            have hP9 := hP.sub (ws' := [(h0, .inr (3, [.int 1, .ref ta, .int zs, .int po, .int fa, .ref da, .ref ra, .ref la, .long we, .long le, .int pk, .int pm, .int co, .ref pa, .int pl, .ref xa, .ref ya, .int mb, .ref ea, .ref wa])), (ra, .inl (cI, 28, .inl rf))]) [0, 1] rfl
            have hD9 := hD.sub (ws' := [(h0, .inr (3, [.int 1, .ref ta, .int zs, .int po, .int fa, .ref da, .ref ra, .ref la, .long we, .long le, .int pk, .int pm, .int co, .ref pa, .int pl, .ref xa, .ref ya, .int mb, .ref ea, .ref wa])), (ra, .inl (cI, 28, .inl rf))]) [0, 1] (by decide) rfl
            exact W.lret (v := 0) hx hb hr (fun t ht hW => ⟨_, _, rfl, ⟨by first | rfl | (simp only [e_0, e_1]; try rfl), by first | rfl | (simp only [e_0, e_1]; try rfl)⟩, by rw [ht]; exact hP9, hD9, hS.F ht⟩) hS.2.2 dR_holds_88
        · have c_28 := xb_bi_t.mp c_28
          refine lv_iload hx hb dR_holds_52 (lv_at hl 6 rfl) ?_
          refine lv_if_lt (tgt := 63) hx hb dR_holds_54 (by decide) (fun c_30 => ?_) (fun c_30 => ?_)
          · refine lv_iconst (v := 1) hx hb dR_holds_63 (by decide) ?_
            refine lv_goto (tgt := 77) hx hb dR_holds_64 (by decide) ?_
            refine va_put (D := (dC, dI)) (ci := 3) (v := .int 1) (ty := .int) (C := xR_R) (T := xF_R) (N := 20) hx hb hts xi_R xt_R xt_R_ok xn_R hown hK hP hD hS 0 rfl rfl 0 (by decide) (hts _ xk_646) (fun _ h9 => h9) rfl (by decide +kernel) rfl rfl (Nat.le_of_ble_eq_true rfl) dR_holds_77 (fun H locs hP hD hS => ?_)
            have hP : va_P (dC, dI) classes [(h0, .inr (3, [.int 1, .ref ta, .int zs, .int po, .int fa, .ref da, .ref ra, .ref la, .long we, .long le, .int pk, .int pm, .int co, .ref pa, .int pl, .ref xa, .ref ya, .int mb, .ref ea, .ref wa])), (ra, .inl (cI, 28, .inl rf))] H := hP
            have hD : va_D A [(h0, .inr (3, [.int 1, .ref ta, .int zs, .int po, .int fa, .ref da, .ref ra, .ref la, .long we, .long le, .int pk, .int pm, .int co, .ref pa, .int pl, .ref xa, .ref ya, .int mb, .ref ea, .ref wa])), (ra, .inl (cI, 28, .inl rf))] := hD
            refine lv_aload_n hx hb dR_holds_80 rfl (lv_at hl 1 rfl) ?_
            refine va_get (D := (dC, dI)) (ci := 3) (v := .int 1) (C := xR_R) (T := xF_R) (N := 20) hx hb hts xi_R hown hK hP 0 rfl rfl 0 (by decide) (hts _ xk_646) (fun _ h9 => h9) rfl dR_holds_81 ?_
            refine lv_if_le (tgt := 89) hx hb dR_holds_84 (by decide) (fun c_31 => ?_) (fun c_31 => ?_)
            · exact absurd c_31 (by decide)
            · refine lv_lconst (v := 0) hx hb dR_holds_87 (by decide) ?_
              have e_0 : gR_holds rf we kind a b angle part = (0 : Int64) := (if_pos c_1).trans ((if_pos c_10).trans ((if_pos c_19).trans ((if_pos c_28).trans ((if_pos c_30).trans (rfl)))))
              have e_1 : gR_holds_0 rf we kind a b angle part = (1 : Int32) := (if_pos c_1).trans ((if_pos c_10).trans ((if_pos c_19).trans ((if_pos c_28).trans ((if_pos c_30).trans (rfl)))))
              have hP9 := hP.sub (ws' := [(h0, .inr (3, [.int 1, .ref ta, .int zs, .int po, .int fa, .ref da, .ref ra, .ref la, .long we, .long le, .int pk, .int pm, .int co, .ref pa, .int pl, .ref xa, .ref ya, .int mb, .ref ea, .ref wa])), (ra, .inl (cI, 28, .inl rf))]) [0, 1] rfl
              have hD9 := hD.sub (ws' := [(h0, .inr (3, [.int 1, .ref ta, .int zs, .int po, .int fa, .ref da, .ref ra, .ref la, .long we, .long le, .int pk, .int pm, .int co, .ref pa, .int pl, .ref xa, .ref ya, .int mb, .ref ea, .ref wa])), (ra, .inl (cI, 28, .inl rf))]) [0, 1] (by decide) rfl
              exact W.lret (v := 0) hx hb hr (fun t ht hW => ⟨_, _, rfl, ⟨by first | rfl | (simp only [e_0, e_1]; try rfl), by first | rfl | (simp only [e_0, e_1]; try rfl)⟩, by rw [ht]; exact hP9, hD9, hS.F ht⟩) hS.2.2 dR_holds_88
          · refine lv_iload hx hb dR_holds_57 (lv_at hl 6 rfl) ?_
            refine lv_iconst (v := 1) hx hb dR_holds_59 (by decide) ?_
            refine lv_icmp_le (tgt := 67) hx hb dR_holds_60 (by decide) (fun c_32 => ?_) (fun c_32 => ?_)
            · refine lv_iload hx hb dR_holds_67 (lv_at hl 0 rfl) ?_
              refine lv_if_eq (tgt := 76) hx hb dR_holds_69 (by decide) (fun c_33 => ?_) (fun c_33 => ?_)
              · exact absurd c_33 (by decide)
              · refine lv_iconst (v := 0) hx hb dR_holds_72 (by decide) ?_
                refine lv_goto (tgt := 77) hx hb dR_holds_73 (by decide) ?_
                refine va_put (D := (dC, dI)) (ci := 3) (v := .int 0) (ty := .int) (C := xR_R) (T := xF_R) (N := 20) hx hb hts xi_R xt_R xt_R_ok xn_R hown hK hP hD hS 0 rfl rfl 0 (by decide) (hts _ xk_646) (fun _ h9 => h9) rfl (by decide +kernel) rfl rfl (Nat.le_of_ble_eq_true rfl) dR_holds_77 (fun H locs hP hD hS => ?_)
                have hP : va_P (dC, dI) classes [(h0, .inr (3, [.int 0, .ref ta, .int zs, .int po, .int fa, .ref da, .ref ra, .ref la, .long we, .long le, .int pk, .int pm, .int co, .ref pa, .int pl, .ref xa, .ref ya, .int mb, .ref ea, .ref wa])), (ra, .inl (cI, 28, .inl rf))] H := hP
                have hD : va_D A [(h0, .inr (3, [.int 0, .ref ta, .int zs, .int po, .int fa, .ref da, .ref ra, .ref la, .long we, .long le, .int pk, .int pm, .int co, .ref pa, .int pl, .ref xa, .ref ya, .int mb, .ref ea, .ref wa])), (ra, .inl (cI, 28, .inl rf))] := hD
                refine lv_aload_n hx hb dR_holds_80 rfl (lv_at hl 1 rfl) ?_
                refine va_get (D := (dC, dI)) (ci := 3) (v := .int 0) (C := xR_R) (T := xF_R) (N := 20) hx hb hts xi_R hown hK hP 0 rfl rfl 0 (by decide) (hts _ xk_646) (fun _ h9 => h9) rfl dR_holds_81 ?_
                refine lv_if_le (tgt := 89) hx hb dR_holds_84 (by decide) (fun c_34 => ?_) (fun c_34 => ?_)
                · refine lv_iconst (v := 0) hx hb dR_holds_89 (by decide) ?_
                  refine lv_istore (lv' := [(7, .int 0), (6, .int 1), (0, .ref h0), (1, .int kind), (2, .int a), (3, .int b), (4, .int angle), (5, .int part)]) hx hb dR_holds_90 hl (by decide) rfl (fun ls hl => ?_)
                  refine lv_iconst (v := 1) hx hb dR_holds_92 (by decide) ?_
                  refine lv_istore (lv' := [(8, .int 1), (7, .int 0), (6, .int 1), (0, .ref h0), (1, .int kind), (2, .int a), (3, .int b), (4, .int angle), (5, .int part)]) hx hb dR_holds_93 hl (by decide) rfl (fun ls hl => ?_)
                  have lp_95 : ∀ (n_95 : Nat) (be : Int32) (wh : Int32), (xl_c 1 4 n_95 wh) → gR_holds rf we kind a b angle part = kR_holds_95a_0 rf we kind a b angle part n_95 be wh → gR_holds_0 rf we kind a b angle part = kR_holds_95a_1 rf we kind a b angle part n_95 be wh → ∀ (H : Heap) (locs : List Loc), va_P (dC, dI) classes [(h0, .inr (3, [.int 0, .ref ta, .int zs, .int po, .int fa, .ref da, .ref ra, .ref la, .long we, .long le, .int pk, .int pm, .int co, .ref pa, .int pl, .ref xa, .ref ya, .int mb, .ref ea, .ref wa])), (ra, .inl (cI, 28, .inl rf))] H → va_D A [(h0, .inr (3, [.int 0, .ref ta, .int zs, .int po, .int fa, .ref da, .ref ra, .ref la, .long we, .long le, .int pk, .int pm, .int co, .ref pa, .int pl, .ref xa, .ref ya, .int mb, .ref ea, .ref wa])), (ra, .inl (cI, 28, .inl rf))] → va_S A s.heap H locs → ∀ ls : Array Slot, lv_has ls 9 [(7, .int be), (8, .int wh), (6, .int 1), (0, .ref h0), (1, .int kind), (2, .int a), (3, .int b), (4, .int angle), (5, .int part)] → W p l e (headSpec [.code yR_holds bR_holds 9 (some (.long))] ({ frames := 1, cells := 0, slots := 0, locals := 30 })).room s m ([.ref h0, .int kind, .int a, .int b, .int angle, .int part] : List Value).toArray below meth c H locs 0 0 (MQ below (xb_W (dC, dI) (fun v9 w9 => v9 = some (.long (gR_holds rf we kind a b angle part)) ∧ w9 = [(h0, .inr (3, [.int (gR_holds_0 rf we kind a b angle part), .ref ta, .int zs, .int po, .int fa, .ref da, .ref ra, .ref la, .long we, .long le, .int pk, .int pm, .int co, .ref pa, .int pl, .ref xa, .ref ya, .int mb, .ref ea, .ref wa])), (ra, .inl (cI, 28, .inl rf))]) A) ([.ref h0, .int kind, .int a, .int b, .int angle, .int part] : List Value).toArray s 0 0 A) (F0 m 95 ls []) := by
                    intro n_95
                    induction n_95 with
                    | zero =>
                      intro be wh hinv_95
                      exact xl_0 hinv_95
                    | succ n_95 ih_95 =>
                      intro be wh hinv_95 hres_95_0 hres_95_1 H locs hP hD hS ls hl
                      refine lv_iload hx hb dR_holds_95 (lv_at hl 1 rfl) ?_
                      refine lv_iconst (v := 4) hx hb dR_holds_97 (by decide) ?_
                      refine lv_icmp_ge (tgt := 142) hx hb dR_holds_98 (by decide) (fun c_35 => ?_) (fun c_35 => ?_)
                      · refine lv_iload hx hb dR_holds_142 (lv_at hl 8 rfl) ?_
                        refine lv_iconst (v := 1) hx hb dR_holds_144 (by decide) ?_
                        refine lv_icmp_ne (tgt := 154) hx hb dR_holds_145 (by decide) (fun c_36 => ?_) (fun c_36 => ?_)
                        · refine lv_aload_n hx hb dR_holds_154 rfl (lv_at hl 3 rfl) ?_
                          refine lv_iload_n hx hb dR_holds_155 rfl (lv_at hl 4 rfl) ?_
                          refine lv_iload hx hb dR_holds_156 (lv_at hl 0 rfl) ?_
                          refine lv_iload_n hx hb dR_holds_158 rfl (lv_at hl 5 rfl) ?_
                          refine lv_i2l hx hb dR_holds_159 rfl ?_
                          refine lv_iload_n hx hb dR_holds_160 rfl (lv_at hl 6 rfl) ?_
                          refine lv_i2l hx hb dR_holds_161 rfl ?_
                          refine xb_rd (W.runV (C := "NailRulesModel") (As := [.int kind, .int be, .long a.toInt64, .long b.toInt64]) (rest := []) ⟨hx, hb, hml, hown, hts⟩ (cR_formula l E h0 ([.int 0, .ref ta, .int zs, .int po, .int fa, .ref da, .ref ra, .ref la, .long we, .long le, .int pk, .int pm, .int co, .ref pa, .int pl, .ref xa, .ref ya, .int mb, .ref ea, .ref wa]) ra rf kind be a.toInt64 b.toInt64 rfl (xp_rul0 (by assumption)) (xp_rulN 1 (by decide) (by assumption))) (cwV 4 hts (xb_gi (List.forall_mem_cons.mpr ⟨xk_767, List.forall_mem_cons.mpr ⟨xk_769, List.forall_mem_cons.mpr ⟨xk_34, List.forall_mem_cons.mpr ⟨xk_45, List.forall_mem_cons.mpr ⟨xk_770, fun _ h => absurd h List.not_mem_nil⟩⟩⟩⟩⟩)) rfl rfl rfl (by decide +kernel) ⟨Nat.le_of_ble_eq_true rfl, Nat.le_of_ble_eq_true rfl⟩) ⟨fun _ _ _ _ q => q, va_recv hK hP (ci := 3) (q0 := 0) rfl rfl, fun U hU hW => ⟨rfl, xb_atS hAt hS hA0 hU hW, by rw [hU]; exact hP.sub (ws' := [(h0, .inr (3, [.int 0, .ref ta, .int zs, .int po, .int fa, .ref da, .ref ra, .ref la, .long we, .long le, .int pk, .int pm, .int co, .ref pa, .int pl, .ref xa, .ref ya, .int mb, .ref ea, .ref wa])), (ra, .inl (cI, 28, .inl rf))]) [0, 1] rfl⟩⟩ rfl rfl hl.1 rfl (lv_room (Nat.le_of_ble_eq_true rfl)) dR_holds_162 ⟨Nat.zero_le _, Nat.zero_le _⟩) ?_
                          refine lv_ldc2 (v := 200) hx hb hown (hts _ xk_772) dR_holds_165 ?_
                          refine lv_iload hx hb dR_holds_168 (lv_at hl 7 rfl) ?_
                          refine lv_i2l hx hb dR_holds_170 rfl ?_
                          refine lv_lsub hx hb dR_holds_171 ?_
                          refine lv_lmul hx hb dR_holds_172 ?_
                          refine lv_ldc2 (v := 200) hx hb hown (hts _ xk_772) dR_holds_173 ?_
                          refine lv_ldiv hx hb dR_holds_176 (by decide) ?_
                          refine lv_aload_n hx hb dR_holds_177 rfl (lv_at hl 3 rfl) ?_
                          refine va_get (D := (dC, dI)) (ci := 3) (v := .long we) (C := xR_R) (T := xF_R) (N := 20) hx hb hts xi_R hown hK hP 0 rfl rfl 8 (by decide) (hts _ xk_654) (fun _ h9 => h9) rfl dR_holds_178 ?_
                          refine lv_lmul hx hb dR_holds_181 ?_
                          refine lv_ldc2 (v := 100) hx hb hown (hts _ xk_644) dR_holds_182 ?_
                          refine lv_ldiv hx hb dR_holds_185 (by decide) ?_
                          have e_0 : gR_holds rf we kind a b angle part = (((((fR_formula rf kind be a.toInt64 b.toInt64) * (200 - angle.toInt64)) / 200) * we) / 100) := hres_95_0.trans ((if_pos c_35).trans ((if_neg c_36).trans (rfl)))
                          have e_1 : gR_holds_0 rf we kind a b angle part = (0 : Int32) := hres_95_1.trans ((if_pos c_35).trans ((if_neg c_36).trans (rfl)))
                          have hP9 := hP.sub (ws' := [(h0, .inr (3, [.int 0, .ref ta, .int zs, .int po, .int fa, .ref da, .ref ra, .ref la, .long we, .long le, .int pk, .int pm, .int co, .ref pa, .int pl, .ref xa, .ref ya, .int mb, .ref ea, .ref wa])), (ra, .inl (cI, 28, .inl rf))]) [0, 1] rfl
                          have hD9 := hD.sub (ws' := [(h0, .inr (3, [.int 0, .ref ta, .int zs, .int po, .int fa, .ref da, .ref ra, .ref la, .long we, .long le, .int pk, .int pm, .int co, .ref pa, .int pl, .ref xa, .ref ya, .int mb, .ref ea, .ref wa])), (ra, .inl (cI, 28, .inl rf))]) [0, 1] (by decide) rfl
                          exact W.lret (v := (((((fR_formula rf kind be a.toInt64 b.toInt64) * (200 - angle.toInt64)) / 200) * we) / 100)) hx hb hr (fun t ht hW => ⟨_, _, rfl, ⟨by first | rfl | (simp only [e_0, e_1]; try rfl), by first | rfl | (simp only [e_0, e_1]; try rfl)⟩, by rw [ht]; exact hP9, hD9, hS.F ht⟩) hS.2.2 dR_holds_186
                        · refine lv_iload hx hb dR_holds_148 (lv_at hl 0 rfl) ?_
                          refine lv_i2l hx hb dR_holds_150 rfl ?_
                          refine lv_goto (tgt := 186) hx hb dR_holds_151 (by decide) ?_
                          have e_0 : gR_holds rf we kind a b angle part = be.toInt64 := hres_95_0.trans ((if_pos c_35).trans ((if_pos c_36).trans (rfl)))
                          have e_1 : gR_holds_0 rf we kind a b angle part = (0 : Int32) := hres_95_1.trans ((if_pos c_35).trans ((if_pos c_36).trans (rfl)))
                          have hP9 := hP.sub (ws' := [(h0, .inr (3, [.int 0, .ref ta, .int zs, .int po, .int fa, .ref da, .ref ra, .ref la, .long we, .long le, .int pk, .int pm, .int co, .ref pa, .int pl, .ref xa, .ref ya, .int mb, .ref ea, .ref wa])), (ra, .inl (cI, 28, .inl rf))]) [0, 1] rfl
                          have hD9 := hD.sub (ws' := [(h0, .inr (3, [.int 0, .ref ta, .int zs, .int po, .int fa, .ref da, .ref ra, .ref la, .long we, .long le, .int pk, .int pm, .int co, .ref pa, .int pl, .ref xa, .ref ya, .int mb, .ref ea, .ref wa])), (ra, .inl (cI, 28, .inl rf))]) [0, 1] (by decide) rfl
                          exact W.lret (v := be.toInt64) hx hb hr (fun t ht hW => ⟨_, _, rfl, ⟨by first | rfl | (simp only [e_0, e_1]; try rfl), by first | rfl | (simp only [e_0, e_1]; try rfl)⟩, by rw [ht]; exact hP9, hD9, hS.F ht⟩) hS.2.2 dR_holds_186
                      · refine lv_aload_n hx hb dR_holds_101 rfl (lv_at hl 3 rfl) ?_
                        refine lv_iload_n hx hb dR_holds_102 rfl (lv_at hl 4 rfl) ?_
                        refine lv_iload hx hb dR_holds_103 (lv_at hl 1 rfl) ?_
                        refine lv_iload_n hx hb dR_holds_105 rfl (lv_at hl 5 rfl) ?_
                        refine lv_i2l hx hb dR_holds_106 rfl ?_
                        refine lv_iload_n hx hb dR_holds_107 rfl (lv_at hl 6 rfl) ?_
                        refine lv_i2l hx hb dR_holds_108 rfl ?_
                        refine xb_rd (W.runV (C := "NailRulesModel") (As := [.int kind, .int wh, .long a.toInt64, .long b.toInt64]) (rest := []) ⟨hx, hb, hml, hown, hts⟩ (cR_formula l E h0 ([.int 0, .ref ta, .int zs, .int po, .int fa, .ref da, .ref ra, .ref la, .long we, .long le, .int pk, .int pm, .int co, .ref pa, .int pl, .ref xa, .ref ya, .int mb, .ref ea, .ref wa]) ra rf kind wh a.toInt64 b.toInt64 rfl (xp_rul0 (by assumption)) (xp_rulN 1 (by decide) (by assumption))) (cwV 4 hts (xb_gi (List.forall_mem_cons.mpr ⟨xk_767, List.forall_mem_cons.mpr ⟨xk_769, List.forall_mem_cons.mpr ⟨xk_34, List.forall_mem_cons.mpr ⟨xk_45, List.forall_mem_cons.mpr ⟨xk_770, fun _ h => absurd h List.not_mem_nil⟩⟩⟩⟩⟩)) rfl rfl rfl (by decide +kernel) ⟨Nat.le_of_ble_eq_true rfl, Nat.le_of_ble_eq_true rfl⟩) ⟨fun _ _ _ _ q => q, va_recv hK hP (ci := 3) (q0 := 0) rfl rfl, fun U hU hW => ⟨rfl, xb_atS hAt hS hA0 hU hW, by rw [hU]; exact hP.sub (ws' := [(h0, .inr (3, [.int 0, .ref ta, .int zs, .int po, .int fa, .ref da, .ref ra, .ref la, .long we, .long le, .int pk, .int pm, .int co, .ref pa, .int pl, .ref xa, .ref ya, .int mb, .ref ea, .ref wa])), (ra, .inl (cI, 28, .inl rf))]) [0, 1] rfl⟩⟩ rfl rfl hl.1 rfl (lv_room (Nat.le_of_ble_eq_true rfl)) dR_holds_109 ⟨Nat.zero_le _, Nat.zero_le _⟩) ?_
                        refine lv_aload_n hx hb dR_holds_112 rfl (lv_at hl 3 rfl) ?_
                        refine lv_iload_n hx hb dR_holds_113 rfl (lv_at hl 4 rfl) ?_
                        refine lv_iload hx hb dR_holds_114 (lv_at hl 0 rfl) ?_
                        refine lv_iload_n hx hb dR_holds_116 rfl (lv_at hl 5 rfl) ?_
                        refine lv_i2l hx hb dR_holds_117 rfl ?_
                        refine lv_iload_n hx hb dR_holds_118 rfl (lv_at hl 6 rfl) ?_
                        refine lv_i2l hx hb dR_holds_119 rfl ?_
                        refine xb_rd (W.runV (C := "NailRulesModel") (As := [.int kind, .int be, .long a.toInt64, .long b.toInt64]) (rest := [.long (fR_formula rf kind wh a.toInt64 b.toInt64)]) ⟨hx, hb, hml, hown, hts⟩ (cR_formula l E h0 ([.int 0, .ref ta, .int zs, .int po, .int fa, .ref da, .ref ra, .ref la, .long we, .long le, .int pk, .int pm, .int co, .ref pa, .int pl, .ref xa, .ref ya, .int mb, .ref ea, .ref wa]) ra rf kind be a.toInt64 b.toInt64 rfl (xp_rul0 (by assumption)) (xp_rulN 1 (by decide) (by assumption))) (cwV 4 hts (xb_gi (List.forall_mem_cons.mpr ⟨xk_767, List.forall_mem_cons.mpr ⟨xk_769, List.forall_mem_cons.mpr ⟨xk_34, List.forall_mem_cons.mpr ⟨xk_45, List.forall_mem_cons.mpr ⟨xk_770, fun _ h => absurd h List.not_mem_nil⟩⟩⟩⟩⟩)) rfl rfl rfl (by decide +kernel) ⟨Nat.le_of_ble_eq_true rfl, Nat.le_of_ble_eq_true rfl⟩) ⟨fun _ _ _ _ q => q, va_recv hK hP (ci := 3) (q0 := 0) rfl rfl, fun U hU hW => ⟨rfl, xb_atS hAt hS hA0 hU hW, by rw [hU]; exact hP.sub (ws' := [(h0, .inr (3, [.int 0, .ref ta, .int zs, .int po, .int fa, .ref da, .ref ra, .ref la, .long we, .long le, .int pk, .int pm, .int co, .ref pa, .int pl, .ref xa, .ref ya, .int mb, .ref ea, .ref wa])), (ra, .inl (cI, 28, .inl rf))]) [0, 1] rfl⟩⟩ rfl rfl hl.1 rfl (lv_room (Nat.le_of_ble_eq_true rfl)) dR_holds_120 ⟨Nat.zero_le _, Nat.zero_le _⟩) ?_
                        refine W.lcmp hx hb dR_holds_123 ?_
                        refine lv_if_ge (tgt := 132) hx hb dR_holds_124 (by decide) (fun c_37 => ?_) (fun c_37 => ?_)
                        · have c_37 := (lg_cmp_ge _ _).mp c_37
                          refine lv_iload hx hb dR_holds_132 (lv_at hl 0 rfl) ?_
                          refine lv_istore (lv' := [(7, .int be), (8, .int wh), (6, .int 1), (0, .ref h0), (1, .int kind), (2, .int a), (3, .int b), (4, .int angle), (5, .int part)]) hx hb dR_holds_134 hl (by decide) rfl (fun ls hl => ?_)
                          refine lv_iinc (v := wh + 1) (lv' := [(8, .int (wh + 1)), (7, .int be), (6, .int 1), (0, .ref h0), (1, .int kind), (2, .int a), (3, .int b), (4, .int angle), (5, .int part)]) hx hb dR_holds_136 hl (k := 1) rfl rfl (by decide) rfl (fun ls hl => ?_)
                          refine lv_goto (tgt := 95) hx hb dR_holds_139 (by decide) ?_
                          have v_inv : xl_c 1 4 n_95 (wh + 1) := xl_s1 (b := 4) hinv_95 (by decide) (by decide) c_35
                          have v_0 : gR_holds rf we kind a b angle part = kR_holds_95a_0 rf we kind a b angle part n_95 be (wh + 1) := hres_95_0.trans ((if_neg c_35).trans ((if_pos c_37).trans (rfl)))
                          have v_1 : gR_holds_0 rf we kind a b angle part = kR_holds_95a_1 rf we kind a b angle part n_95 be (wh + 1) := hres_95_1.trans ((if_neg c_35).trans ((if_pos c_37).trans (rfl)))
                          exact ih_95 be (wh + 1) v_inv v_0 v_1 _ _ (hP.sub (ws' := [(h0, .inr (3, [.int 0, .ref ta, .int zs, .int po, .int fa, .ref da, .ref ra, .ref la, .long we, .long le, .int pk, .int pm, .int co, .ref pa, .int pl, .ref xa, .ref ya, .int mb, .ref ea, .ref wa])), (ra, .inl (cI, 28, .inl rf))]) [0, 1] rfl) (hD.sub (ws' := [(h0, .inr (3, [.int 0, .ref ta, .int zs, .int po, .int fa, .ref da, .ref ra, .ref la, .long we, .long le, .int pk, .int pm, .int co, .ref pa, .int pl, .ref xa, .ref ya, .int mb, .ref ea, .ref wa])), (ra, .inl (cI, 28, .inl rf))]) [0, 1] (by decide) rfl) hS ls (lv_sub hl [1, 0, 2, 3, 4, 5, 6, 7, 8] rfl)
                        · have c_37 := fun q => c_37 ((lg_cmp_ge _ _).mpr q)
                          refine lv_iload hx hb dR_holds_127 (lv_at hl 1 rfl) ?_
                          refine lv_goto (tgt := 134) hx hb dR_holds_129 (by decide) ?_
                          refine lv_istore (lv' := [(7, .int wh), (8, .int wh), (6, .int 1), (0, .ref h0), (1, .int kind), (2, .int a), (3, .int b), (4, .int angle), (5, .int part)]) hx hb dR_holds_134 hl (by decide) rfl (fun ls hl => ?_)
                          refine lv_iinc (v := wh + 1) (lv' := [(8, .int (wh + 1)), (7, .int wh), (6, .int 1), (0, .ref h0), (1, .int kind), (2, .int a), (3, .int b), (4, .int angle), (5, .int part)]) hx hb dR_holds_136 hl (k := 1) rfl rfl (by decide) rfl (fun ls hl => ?_)
                          refine lv_goto (tgt := 95) hx hb dR_holds_139 (by decide) ?_
                          have v_inv : xl_c 1 4 n_95 (wh + 1) := xl_s1 (b := 4) hinv_95 (by decide) (by decide) c_35
                          have v_0 : gR_holds rf we kind a b angle part = kR_holds_95a_0 rf we kind a b angle part n_95 wh (wh + 1) := hres_95_0.trans ((if_neg c_35).trans ((if_neg c_37).trans (rfl)))
                          have v_1 : gR_holds_0 rf we kind a b angle part = kR_holds_95a_1 rf we kind a b angle part n_95 wh (wh + 1) := hres_95_1.trans ((if_neg c_35).trans ((if_neg c_37).trans (rfl)))
                          exact ih_95 wh (wh + 1) v_inv v_0 v_1 _ _ (hP.sub (ws' := [(h0, .inr (3, [.int 0, .ref ta, .int zs, .int po, .int fa, .ref da, .ref ra, .ref la, .long we, .long le, .int pk, .int pm, .int co, .ref pa, .int pl, .ref xa, .ref ya, .int mb, .ref ea, .ref wa])), (ra, .inl (cI, 28, .inl rf))]) [0, 1] rfl) (hD.sub (ws' := [(h0, .inr (3, [.int 0, .ref ta, .int zs, .int po, .int fa, .ref da, .ref ra, .ref la, .long we, .long le, .int pk, .int pm, .int co, .ref pa, .int pl, .ref xa, .ref ya, .int mb, .ref ea, .ref wa])), (ra, .inl (cI, 28, .inl rf))]) [0, 1] (by decide) rfl) hS ls (lv_sub hl [1, 0, 2, 3, 4, 5, 6, 7, 8] rfl)
                  have v_inv : xl_c 1 4 4 (1 : Int32) := ⟨1, rfl, by omega, by omega, by omega⟩
                  have v_0 : gR_holds rf we kind a b angle part = kR_holds_95a_0 rf we kind a b angle part 4 (0) (1) := (if_pos c_1).trans ((if_pos c_10).trans ((if_pos c_19).trans ((if_pos c_28).trans ((if_neg c_30).trans ((if_pos c_32).trans (rfl))))))
                  have v_1 : gR_holds_0 rf we kind a b angle part = kR_holds_95a_1 rf we kind a b angle part 4 (0) (1) := (if_pos c_1).trans ((if_pos c_10).trans ((if_pos c_19).trans ((if_pos c_28).trans ((if_neg c_30).trans ((if_pos c_32).trans (rfl))))))
                  exact lp_95 4 (0) (1) v_inv v_0 v_1 _ _ (hP.sub (ws' := [(h0, .inr (3, [.int 0, .ref ta, .int zs, .int po, .int fa, .ref da, .ref ra, .ref la, .long we, .long le, .int pk, .int pm, .int co, .ref pa, .int pl, .ref xa, .ref ya, .int mb, .ref ea, .ref wa])), (ra, .inl (cI, 28, .inl rf))]) [0, 1] rfl) (hD.sub (ws' := [(h0, .inr (3, [.int 0, .ref ta, .int zs, .int po, .int fa, .ref da, .ref ra, .ref la, .long we, .long le, .int pk, .int pm, .int co, .ref pa, .int pl, .ref xa, .ref ya, .int mb, .ref ea, .ref wa])), (ra, .inl (cI, 28, .inl rf))]) [0, 1] (by decide) rfl) hS ls (lv_sub hl [1, 0, 2, 3, 4, 5, 6, 7, 8] rfl)
                · exact absurd c_34 (by decide)
            · refine lv_iconst (v := 1) hx hb dR_holds_63 (by decide) ?_
              refine lv_goto (tgt := 77) hx hb dR_holds_64 (by decide) ?_
              refine va_put (D := (dC, dI)) (ci := 3) (v := .int 1) (ty := .int) (C := xR_R) (T := xF_R) (N := 20) hx hb hts xi_R xt_R xt_R_ok xn_R hown hK hP hD hS 0 rfl rfl 0 (by decide) (hts _ xk_646) (fun _ h9 => h9) rfl (by decide +kernel) rfl rfl (Nat.le_of_ble_eq_true rfl) dR_holds_77 (fun H locs hP hD hS => ?_)
              have hP : va_P (dC, dI) classes [(h0, .inr (3, [.int 1, .ref ta, .int zs, .int po, .int fa, .ref da, .ref ra, .ref la, .long we, .long le, .int pk, .int pm, .int co, .ref pa, .int pl, .ref xa, .ref ya, .int mb, .ref ea, .ref wa])), (ra, .inl (cI, 28, .inl rf))] H := hP
              have hD : va_D A [(h0, .inr (3, [.int 1, .ref ta, .int zs, .int po, .int fa, .ref da, .ref ra, .ref la, .long we, .long le, .int pk, .int pm, .int co, .ref pa, .int pl, .ref xa, .ref ya, .int mb, .ref ea, .ref wa])), (ra, .inl (cI, 28, .inl rf))] := hD
              refine lv_aload_n hx hb dR_holds_80 rfl (lv_at hl 1 rfl) ?_
              refine va_get (D := (dC, dI)) (ci := 3) (v := .int 1) (C := xR_R) (T := xF_R) (N := 20) hx hb hts xi_R hown hK hP 0 rfl rfl 0 (by decide) (hts _ xk_646) (fun _ h9 => h9) rfl dR_holds_81 ?_
              refine lv_if_le (tgt := 89) hx hb dR_holds_84 (by decide) (fun c_38 => ?_) (fun c_38 => ?_)
              · exact absurd c_38 (by decide)
              · refine lv_lconst (v := 0) hx hb dR_holds_87 (by decide) ?_
                have e_0 : gR_holds rf we kind a b angle part = (0 : Int64) := (if_pos c_1).trans ((if_pos c_10).trans ((if_pos c_19).trans ((if_pos c_28).trans ((if_neg c_30).trans ((if_neg c_32).trans (rfl))))))
                have e_1 : gR_holds_0 rf we kind a b angle part = (1 : Int32) := (if_pos c_1).trans ((if_pos c_10).trans ((if_pos c_19).trans ((if_pos c_28).trans ((if_neg c_30).trans ((if_neg c_32).trans (rfl))))))
                have hP9 := hP.sub (ws' := [(h0, .inr (3, [.int 1, .ref ta, .int zs, .int po, .int fa, .ref da, .ref ra, .ref la, .long we, .long le, .int pk, .int pm, .int co, .ref pa, .int pl, .ref xa, .ref ya, .int mb, .ref ea, .ref wa])), (ra, .inl (cI, 28, .inl rf))]) [0, 1] rfl
                have hD9 := hD.sub (ws' := [(h0, .inr (3, [.int 1, .ref ta, .int zs, .int po, .int fa, .ref da, .ref ra, .ref la, .long we, .long le, .int pk, .int pm, .int co, .ref pa, .int pl, .ref xa, .ref ya, .int mb, .ref ea, .ref wa])), (ra, .inl (cI, 28, .inl rf))]) [0, 1] (by decide) rfl
                exact W.lret (v := 0) hx hb hr (fun t ht hW => ⟨_, _, rfl, ⟨by first | rfl | (simp only [e_0, e_1]; try rfl), by first | rfl | (simp only [e_0, e_1]; try rfl)⟩, by rw [ht]; exact hP9, hD9, hS.F ht⟩) hS.2.2 dR_holds_88

def kR_count_34a_0 (le : Int64) (load : Int64) (one : Int64) : Nat → Int32 → Int32
  | 0, _ => default
  | n_34 + 1, wn => (0)
def kR_count_34a_1 (le : Int64) (load : Int64) (one : Int64) : Nat → Int32 → Int32
  | 0, _ => default
  | n_34 + 1, wn => (1)
def kR_count_34b_0 (le : Int64) (load : Int64) (one : Int64) : Nat → Int32 → Int32
  | 0, _ => default
  | n_34 + 1, wn => (0)
def kR_count_34b_1 (le : Int64) (load : Int64) (one : Int64) : Nat → Int32 → Int32
  | 0, _ => default
  | n_34 + 1, wn => (1)
def kR_count_34c_0 (le : Int64) (load : Int64) (one : Int64) : Nat → Int32 → Int32
  | 0, _ => default
  | n_34 + 1, wn => if 100 < wn then (if wn ≤ 100 then (wn) else (((-1)))) else (if load ≤ (fR_all le wn.toInt64 one) then (if wn ≤ 100 then (wn) else (((-1)))) else (kR_count_34c_0 le load one n_34 (wn + 1)))
def kR_count_34c_1 (le : Int64) (load : Int64) (one : Int64) : Nat → Int32 → Int32
  | 0, _ => default
  | n_34 + 1, wn => if 100 < wn then (if wn ≤ 100 then ((0)) else ((0))) else (if load ≤ (fR_all le wn.toInt64 one) then (if wn ≤ 100 then ((0)) else ((0))) else (kR_count_34c_1 le load one n_34 (wn + 1)))
def gR_count (le : Int64) (load : Int64) (one : Int64) : Int32 := if (fR_isIn load (0) (1000000000000)) = true then (if (fR_isIn one (0) (1000000000000)) = true then (kR_count_34c_0 le load one 101 (1)) else (kR_count_34b_0 le load one 101 (1))) else (kR_count_34a_0 le load one 101 (1))
def gR_count_0 (le : Int64) (load : Int64) (one : Int64) : Int32 := if (fR_isIn load (0) (1000000000000)) = true then (if (fR_isIn one (0) (1000000000000)) = true then (kR_count_34c_1 le load one 101 (1)) else (kR_count_34b_1 le load one 101 (1))) else (kR_count_34a_1 le load one 101 (1))
set_option maxHeartbeats 4000000 in
set_option maxRecDepth 100000 in
theorem cR_count (l : Launch) {s0 : State} {dC : Nat → ClassId} {dI : Nat → Nat → Nat} {cI cC cL cO : ClassId} (E : xb_Env l s0 dC dI (xtys cI cC cL cO)) (sz : Nat) (h0 : Nat) (th : Int32) (ta : Nat) (zs : Int32) (po : Int32) (fa : Int32) (da : Nat) (ra : Nat) (la : Nat) (we : Int64) (le : Int64) (pk : Int32) (pm : Int32) (co : Int32) (pa : Nat) (pl : Int32) (xa : Nat) (ya : Nat) (mb : Int32) (ea : Nat) (wa : Nat) (load : Int64) (one : Int64) : Met l yR_count [.code yR_count bR_count 6 (some (.int))] ({ frames := 1, cells := 0, slots := 0, locals := 26 }) (va_Pc [.ref h0, .long load, .long one] (fun U => xb_At s0 U ∧ U.heap.size = sz ∧ va_P (dC, dI) classes [(h0, .inr (3, [.int th, .ref ta, .int zs, .int po, .int fa, .ref da, .ref ra, .ref la, .long we, .long le, .int pk, .int pm, .int co, .ref pa, .int pl, .ref xa, .ref ya, .int mb, .ref ea, .ref wa]))] U.heap ∧ va_D (fun q => s0.heap.size ≤ q) [(h0, .inr (3, [.int th, .ref ta, .int zs, .int po, .int fa, .ref da, .ref ra, .ref la, .long we, .long le, .int pk, .int pm, .int co, .ref pa, .int pl, .ref xa, .ref ya, .int mb, .ref ea, .ref wa]))])) (xb_W (dC, dI) (fun v9 w9 => v9 = some (.int (gR_count le load one)) ∧ w9 = [(h0, .inr (3, [.int (gR_count_0 le load one), .ref ta, .int zs, .int po, .int fa, .ref da, .ref ra, .ref la, .long we, .long le, .int pk, .int pm, .int co, .ref pa, .int pl, .ref xa, .ref ya, .int mb, .ref ea, .ref wa]))]) (va_A [(h0, .inr (3, [.int th, .ref ta, .int zs, .int po, .int fa, .ref da, .ref ra, .ref la, .long we, .long le, .int pk, .int pm, .int co, .ref pa, .int pl, .ref xa, .ref ya, .int mb, .ref ea, .ref wa]))] sz)) 0 0 (va_A [(h0, .inr (3, [.int th, .ref ta, .int zs, .int po, .int fa, .ref da, .ref ra, .ref la, .long we, .long le, .int pk, .int pm, .int co, .ref pa, .int pl, .ref xa, .ref ya, .int mb, .ref ea, .ref wa]))] sz) := by
  refine Met.ofW (cc := bR_count) (maxL := 6) (ret := (some (.int))) (by decide) rfl ?_
  intro p e s m args below meth c s₁ B hml hv
  obtain ⟨rfl, hAt, hsz, hP, hD0⟩ := hv
  have hx := B.exec
  have hb := B.bytes
  have hr := B.returns
  have hts := xb_hts E hAt ([.ref h0, .long load, .long one] : List Value).toArray
  have hown : s.vm.findClass "NailRulesModel" = some m.cls := findClass_of_methodNamed B.named
  have hlocks := B.notSynchronized
  have hK := xb_K E hAt
  subst hsz
  have hA0 := xb_A0 hAt hD0
  have hD := hD0.self (sz := s.heap.size)
  generalize hAe : va_A [(h0, .inr (3, [.int th, .ref ta, .int zs, .int po, .int fa, .ref da, .ref ra, .ref la, .long we, .long le, .int pk, .int pm, .int co, .ref pa, .int pl, .ref xa, .ref ya, .int mb, .ref ea, .ref wa]))] s.heap.size = A at hD hA0 ⊢
  have hA : ∀ q : Nat, s.heap.size ≤ q → A q := fun q h => by rw [← hAe]; exact Or.inr h
  have hS : va_S A s.heap s.heap [] := va_S.rf
  have hl := lv_entry ([.ref h0, .long load, .long one]) (n := 6) (Nat.le_of_ble_eq_true rfl)
  rw [lg_entry_eq]
  generalize (lg_sl ([.ref h0, .long load, .long one]) ++ List.replicate (6 - (lg_sl ([.ref h0, .long load, .long one])).length) Slot.unset).toArray = ls at hl ⊢
  have hl : lv_has ls 6 [(0, .ref h0), (1, .long load), (3, .long one)] := hl
  refine lv_aload_n hx hb dR_count_0 rfl (lv_at hl 0 rfl) ?_
  refine lv_lload_n hx hb dR_count_1 rfl (lv_at hl 1 rfl) ?_
  refine lv_lconst (v := 0) hx hb dR_count_2 (by decide) ?_
  refine lv_ldc2 (v := 1000000000000) hx hb hown (hts _ xk_777) dR_count_3 ?_
  refine xb_rd (W.runS (As := [.long load, .long 0, .long 1000000000000]) (rest := [.ref h0]) ⟨hx, hb, hml, hown, hts⟩ (cR_isIn l E load 0 1000000000000) (cwS 3 hts (xb_gi (List.forall_mem_cons.mpr ⟨xk_754, List.forall_mem_cons.mpr ⟨xk_755, List.forall_mem_cons.mpr ⟨xk_45, List.forall_mem_cons.mpr ⟨xk_756, fun _ h => absurd h List.not_mem_nil⟩⟩⟩⟩)) rfl rfl rfl (by decide +kernel) ⟨Nat.le_of_ble_eq_true rfl, Nat.le_of_ble_eq_true rfl⟩) ⟨fun _ _ _ _ q => q, fun U hU hW => ⟨rfl, xb_atS hAt hS hA0 hU hW, fun k q h => by simp at h⟩⟩ rfl rfl hl.1 rfl (lv_room (Nat.le_of_ble_eq_true rfl)) dR_count_6 ⟨Nat.zero_le _, Nat.zero_le _⟩) ?_
  refine lv_if_eq (tgt := 27) hx hb dR_count_9 (by decide) (fun c_1 => ?_) (fun c_1 => ?_)
  · have c_1 := xb_bi_f.mp c_1
    refine lv_iconst (v := 1) hx hb dR_count_27 (by decide) ?_
    refine va_put (D := (dC, dI)) (ci := 3) (v := .int 1) (ty := .int) (C := xR_R) (T := xF_R) (N := 20) hx hb hts xi_R xt_R xt_R_ok xn_R hown hK hP hD hS 0 rfl rfl 0 (by decide) (hts _ xk_646) (fun _ h9 => h9) rfl (by decide +kernel) rfl rfl (Nat.le_of_ble_eq_true rfl) dR_count_28 (fun H locs hP hD hS => ?_)
    have hP : va_P (dC, dI) classes [(h0, .inr (3, [.int 1, .ref ta, .int zs, .int po, .int fa, .ref da, .ref ra, .ref la, .long we, .long le, .int pk, .int pm, .int co, .ref pa, .int pl, .ref xa, .ref ya, .int mb, .ref ea, .ref wa]))] H := hP
    have hD : va_D A [(h0, .inr (3, [.int 1, .ref ta, .int zs, .int po, .int fa, .ref da, .ref ra, .ref la, .long we, .long le, .int pk, .int pm, .int co, .ref pa, .int pl, .ref xa, .ref ya, .int mb, .ref ea, .ref wa]))] := hD
    refine lv_iconst (v := 1) hx hb dR_count_31 (by decide) ?_
    refine lv_istore (lv' := [(5, .int 1), (0, .ref h0), (1, .long load), (3, .long one)]) hx hb dR_count_32 hl (by decide) rfl (fun ls hl => ?_)
    have lp_34 : ∀ (n_34 : Nat) (wn : Int32), (xl_c 1 101 n_34 wn) → gR_count le load one = kR_count_34a_0 le load one n_34 wn → gR_count_0 le load one = kR_count_34a_1 le load one n_34 wn → ∀ (H : Heap) (locs : List Loc), va_P (dC, dI) classes [(h0, .inr (3, [.int 1, .ref ta, .int zs, .int po, .int fa, .ref da, .ref ra, .ref la, .long we, .long le, .int pk, .int pm, .int co, .ref pa, .int pl, .ref xa, .ref ya, .int mb, .ref ea, .ref wa]))] H → va_D A [(h0, .inr (3, [.int 1, .ref ta, .int zs, .int po, .int fa, .ref da, .ref ra, .ref la, .long we, .long le, .int pk, .int pm, .int co, .ref pa, .int pl, .ref xa, .ref ya, .int mb, .ref ea, .ref wa]))] → va_S A s.heap H locs → ∀ ls : Array Slot, lv_has ls 6 [(5, .int wn), (0, .ref h0), (1, .long load), (3, .long one)] → W p l e (headSpec [.code yR_count bR_count 6 (some (.int))] ({ frames := 1, cells := 0, slots := 0, locals := 26 })).room s m ([.ref h0, .long load, .long one] : List Value).toArray below meth c H locs 0 0 (MQ below (xb_W (dC, dI) (fun v9 w9 => v9 = some (.int (gR_count le load one)) ∧ w9 = [(h0, .inr (3, [.int (gR_count_0 le load one), .ref ta, .int zs, .int po, .int fa, .ref da, .ref ra, .ref la, .long we, .long le, .int pk, .int pm, .int co, .ref pa, .int pl, .ref xa, .ref ya, .int mb, .ref ea, .ref wa]))]) A) ([.ref h0, .long load, .long one] : List Value).toArray s 0 0 A) (F0 m 34 ls []) := by
      intro n_34
      induction n_34 with
      | zero =>
        intro wn hinv_34
        exact xl_0 hinv_34
      | succ n_34 ih_34 =>
        intro wn hinv_34 hres_34_0 hres_34_1 H locs hP hD hS ls hl
        refine lv_aload_n hx hb dR_count_34 rfl (lv_at hl 1 rfl) ?_
        refine va_get (D := (dC, dI)) (ci := 3) (v := .int 1) (C := xR_R) (T := xF_R) (N := 20) hx hb hts xi_R hown hK hP 0 rfl rfl 0 (by decide) (hts _ xk_646) (fun _ h9 => h9) rfl dR_count_35 ?_
        refine lv_if_ne (tgt := 67) hx hb dR_count_38 (by decide) (fun c_2 => ?_) (fun c_2 => ?_)
        · refine lv_aload_n hx hb dR_count_67 rfl (lv_at hl 1 rfl) ?_
          refine va_get (D := (dC, dI)) (ci := 3) (v := .int 1) (C := xR_R) (T := xF_R) (N := 20) hx hb hts xi_R hown hK hP 0 rfl rfl 0 (by decide) (hts _ xk_646) (fun _ h9 => h9) rfl dR_count_68 ?_
          refine lv_if_le (tgt := 78) hx hb dR_count_71 (by decide) (fun c_3 => ?_) (fun c_3 => ?_)
          · exact absurd c_3 (by decide)
          · refine lv_iconst (v := 0) hx hb dR_count_74 (by decide) ?_
            refine lv_goto (tgt := 91) hx hb dR_count_75 (by decide) ?_
            have e_0 : gR_count le load one = (0 : Int32) := hres_34_0.trans (rfl)
            have e_1 : gR_count_0 le load one = (1 : Int32) := hres_34_1.trans (rfl)
            have hP9 := hP.sub (ws' := [(h0, .inr (3, [.int 1, .ref ta, .int zs, .int po, .int fa, .ref da, .ref ra, .ref la, .long we, .long le, .int pk, .int pm, .int co, .ref pa, .int pl, .ref xa, .ref ya, .int mb, .ref ea, .ref wa]))]) [0] rfl
            have hD9 := hD.sub (ws' := [(h0, .inr (3, [.int 1, .ref ta, .int zs, .int po, .int fa, .ref da, .ref ra, .ref la, .long we, .long le, .int pk, .int pm, .int co, .ref pa, .int pl, .ref xa, .ref ya, .int mb, .ref ea, .ref wa]))]) [0] (by decide) rfl
            exact W.iret (v := 0) hx hb hr (fun t ht hW => ⟨_, _, rfl, ⟨by first | rfl | (simp only [e_0, e_1]; try rfl), by first | rfl | (simp only [e_0, e_1]; try rfl)⟩, by rw [ht]; exact hP9, hD9, hS.F ht⟩) hS.2.2 dR_count_91
        · exact absurd c_2 (by decide)
    have v_inv : xl_c 1 101 101 (1 : Int32) := ⟨1, rfl, by omega, by omega, by omega⟩
    have v_0 : gR_count le load one = kR_count_34a_0 le load one 101 (1) := (if_neg c_1).trans (rfl)
    have v_1 : gR_count_0 le load one = kR_count_34a_1 le load one 101 (1) := (if_neg c_1).trans (rfl)
    exact lp_34 101 (1) v_inv v_0 v_1 _ _ (hP.sub (ws' := [(h0, .inr (3, [.int 1, .ref ta, .int zs, .int po, .int fa, .ref da, .ref ra, .ref la, .long we, .long le, .int pk, .int pm, .int co, .ref pa, .int pl, .ref xa, .ref ya, .int mb, .ref ea, .ref wa]))]) [0] rfl) (hD.sub (ws' := [(h0, .inr (3, [.int 1, .ref ta, .int zs, .int po, .int fa, .ref da, .ref ra, .ref la, .long we, .long le, .int pk, .int pm, .int co, .ref pa, .int pl, .ref xa, .ref ya, .int mb, .ref ea, .ref wa]))]) [0] (by decide) rfl) hS ls (lv_sub hl [0, 1, 2, 3] rfl)
  · have c_1 := xb_bi_t.mp c_1
    refine lv_lload_n hx hb dR_count_12 rfl (lv_at hl 2 rfl) ?_
    refine lv_lconst (v := 0) hx hb dR_count_13 (by decide) ?_
    refine lv_ldc2 (v := 1000000000000) hx hb hown (hts _ xk_777) dR_count_14 ?_
    refine xb_rd (W.runS (As := [.long one, .long 0, .long 1000000000000]) (rest := [.ref h0]) ⟨hx, hb, hml, hown, hts⟩ (cR_isIn l E one 0 1000000000000) (cwS 3 hts (xb_gi (List.forall_mem_cons.mpr ⟨xk_754, List.forall_mem_cons.mpr ⟨xk_755, List.forall_mem_cons.mpr ⟨xk_45, List.forall_mem_cons.mpr ⟨xk_756, fun _ h => absurd h List.not_mem_nil⟩⟩⟩⟩)) rfl rfl rfl (by decide +kernel) ⟨Nat.le_of_ble_eq_true rfl, Nat.le_of_ble_eq_true rfl⟩) ⟨fun _ _ _ _ q => q, fun U hU hW => ⟨rfl, xb_atS hAt hS hA0 hU hW, fun k q h => by simp at h⟩⟩ rfl rfl hl.1 rfl (lv_room (Nat.le_of_ble_eq_true rfl)) dR_count_17 ⟨Nat.zero_le _, Nat.zero_le _⟩) ?_
    refine lv_if_eq (tgt := 27) hx hb dR_count_20 (by decide) (fun c_4 => ?_) (fun c_4 => ?_)
    · have c_4 := xb_bi_f.mp c_4
      refine lv_iconst (v := 1) hx hb dR_count_27 (by decide) ?_
      refine va_put (D := (dC, dI)) (ci := 3) (v := .int 1) (ty := .int) (C := xR_R) (T := xF_R) (N := 20) hx hb hts xi_R xt_R xt_R_ok xn_R hown hK hP hD hS 0 rfl rfl 0 (by decide) (hts _ xk_646) (fun _ h9 => h9) rfl (by decide +kernel) rfl rfl (Nat.le_of_ble_eq_true rfl) dR_count_28 (fun H locs hP hD hS => ?_)
      have hP : va_P (dC, dI) classes [(h0, .inr (3, [.int 1, .ref ta, .int zs, .int po, .int fa, .ref da, .ref ra, .ref la, .long we, .long le, .int pk, .int pm, .int co, .ref pa, .int pl, .ref xa, .ref ya, .int mb, .ref ea, .ref wa]))] H := hP
      have hD : va_D A [(h0, .inr (3, [.int 1, .ref ta, .int zs, .int po, .int fa, .ref da, .ref ra, .ref la, .long we, .long le, .int pk, .int pm, .int co, .ref pa, .int pl, .ref xa, .ref ya, .int mb, .ref ea, .ref wa]))] := hD
      refine lv_iconst (v := 1) hx hb dR_count_31 (by decide) ?_
      refine lv_istore (lv' := [(5, .int 1), (0, .ref h0), (1, .long load), (3, .long one)]) hx hb dR_count_32 hl (by decide) rfl (fun ls hl => ?_)
      have lp_34 : ∀ (n_34 : Nat) (wn : Int32), (xl_c 1 101 n_34 wn) → gR_count le load one = kR_count_34b_0 le load one n_34 wn → gR_count_0 le load one = kR_count_34b_1 le load one n_34 wn → ∀ (H : Heap) (locs : List Loc), va_P (dC, dI) classes [(h0, .inr (3, [.int 1, .ref ta, .int zs, .int po, .int fa, .ref da, .ref ra, .ref la, .long we, .long le, .int pk, .int pm, .int co, .ref pa, .int pl, .ref xa, .ref ya, .int mb, .ref ea, .ref wa]))] H → va_D A [(h0, .inr (3, [.int 1, .ref ta, .int zs, .int po, .int fa, .ref da, .ref ra, .ref la, .long we, .long le, .int pk, .int pm, .int co, .ref pa, .int pl, .ref xa, .ref ya, .int mb, .ref ea, .ref wa]))] → va_S A s.heap H locs → ∀ ls : Array Slot, lv_has ls 6 [(5, .int wn), (0, .ref h0), (1, .long load), (3, .long one)] → W p l e (headSpec [.code yR_count bR_count 6 (some (.int))] ({ frames := 1, cells := 0, slots := 0, locals := 26 })).room s m ([.ref h0, .long load, .long one] : List Value).toArray below meth c H locs 0 0 (MQ below (xb_W (dC, dI) (fun v9 w9 => v9 = some (.int (gR_count le load one)) ∧ w9 = [(h0, .inr (3, [.int (gR_count_0 le load one), .ref ta, .int zs, .int po, .int fa, .ref da, .ref ra, .ref la, .long we, .long le, .int pk, .int pm, .int co, .ref pa, .int pl, .ref xa, .ref ya, .int mb, .ref ea, .ref wa]))]) A) ([.ref h0, .long load, .long one] : List Value).toArray s 0 0 A) (F0 m 34 ls []) := by
        intro n_34
        induction n_34 with
        | zero =>
          intro wn hinv_34
          exact xl_0 hinv_34
        | succ n_34 ih_34 =>
          intro wn hinv_34 hres_34_0 hres_34_1 H locs hP hD hS ls hl
          refine lv_aload_n hx hb dR_count_34 rfl (lv_at hl 1 rfl) ?_
          refine va_get (D := (dC, dI)) (ci := 3) (v := .int 1) (C := xR_R) (T := xF_R) (N := 20) hx hb hts xi_R hown hK hP 0 rfl rfl 0 (by decide) (hts _ xk_646) (fun _ h9 => h9) rfl dR_count_35 ?_
          refine lv_if_ne (tgt := 67) hx hb dR_count_38 (by decide) (fun c_5 => ?_) (fun c_5 => ?_)
          · refine lv_aload_n hx hb dR_count_67 rfl (lv_at hl 1 rfl) ?_
            refine va_get (D := (dC, dI)) (ci := 3) (v := .int 1) (C := xR_R) (T := xF_R) (N := 20) hx hb hts xi_R hown hK hP 0 rfl rfl 0 (by decide) (hts _ xk_646) (fun _ h9 => h9) rfl dR_count_68 ?_
            refine lv_if_le (tgt := 78) hx hb dR_count_71 (by decide) (fun c_6 => ?_) (fun c_6 => ?_)
            · exact absurd c_6 (by decide)
            · refine lv_iconst (v := 0) hx hb dR_count_74 (by decide) ?_
              refine lv_goto (tgt := 91) hx hb dR_count_75 (by decide) ?_
              have e_0 : gR_count le load one = (0 : Int32) := hres_34_0.trans (rfl)
              have e_1 : gR_count_0 le load one = (1 : Int32) := hres_34_1.trans (rfl)
              have hP9 := hP.sub (ws' := [(h0, .inr (3, [.int 1, .ref ta, .int zs, .int po, .int fa, .ref da, .ref ra, .ref la, .long we, .long le, .int pk, .int pm, .int co, .ref pa, .int pl, .ref xa, .ref ya, .int mb, .ref ea, .ref wa]))]) [0] rfl
              have hD9 := hD.sub (ws' := [(h0, .inr (3, [.int 1, .ref ta, .int zs, .int po, .int fa, .ref da, .ref ra, .ref la, .long we, .long le, .int pk, .int pm, .int co, .ref pa, .int pl, .ref xa, .ref ya, .int mb, .ref ea, .ref wa]))]) [0] (by decide) rfl
              exact W.iret (v := 0) hx hb hr (fun t ht hW => ⟨_, _, rfl, ⟨by first | rfl | (simp only [e_0, e_1]; try rfl), by first | rfl | (simp only [e_0, e_1]; try rfl)⟩, by rw [ht]; exact hP9, hD9, hS.F ht⟩) hS.2.2 dR_count_91
          · exact absurd c_5 (by decide)
      have v_inv : xl_c 1 101 101 (1 : Int32) := ⟨1, rfl, by omega, by omega, by omega⟩
      have v_0 : gR_count le load one = kR_count_34b_0 le load one 101 (1) := (if_pos c_1).trans ((if_neg c_4).trans (rfl))
      have v_1 : gR_count_0 le load one = kR_count_34b_1 le load one 101 (1) := (if_pos c_1).trans ((if_neg c_4).trans (rfl))
      exact lp_34 101 (1) v_inv v_0 v_1 _ _ (hP.sub (ws' := [(h0, .inr (3, [.int 1, .ref ta, .int zs, .int po, .int fa, .ref da, .ref ra, .ref la, .long we, .long le, .int pk, .int pm, .int co, .ref pa, .int pl, .ref xa, .ref ya, .int mb, .ref ea, .ref wa]))]) [0] rfl) (hD.sub (ws' := [(h0, .inr (3, [.int 1, .ref ta, .int zs, .int po, .int fa, .ref da, .ref ra, .ref la, .long we, .long le, .int pk, .int pm, .int co, .ref pa, .int pl, .ref xa, .ref ya, .int mb, .ref ea, .ref wa]))]) [0] (by decide) rfl) hS ls (lv_sub hl [0, 1, 2, 3] rfl)
    · have c_4 := xb_bi_t.mp c_4
      refine lv_iconst (v := 0) hx hb dR_count_23 (by decide) ?_
      refine lv_goto (tgt := 28) hx hb dR_count_24 (by decide) ?_
      refine va_put (D := (dC, dI)) (ci := 3) (v := .int 0) (ty := .int) (C := xR_R) (T := xF_R) (N := 20) hx hb hts xi_R xt_R xt_R_ok xn_R hown hK hP hD hS 0 rfl rfl 0 (by decide) (hts _ xk_646) (fun _ h9 => h9) rfl (by decide +kernel) rfl rfl (Nat.le_of_ble_eq_true rfl) dR_count_28 (fun H locs hP hD hS => ?_)
      have hP : va_P (dC, dI) classes [(h0, .inr (3, [.int 0, .ref ta, .int zs, .int po, .int fa, .ref da, .ref ra, .ref la, .long we, .long le, .int pk, .int pm, .int co, .ref pa, .int pl, .ref xa, .ref ya, .int mb, .ref ea, .ref wa]))] H := hP
      have hD : va_D A [(h0, .inr (3, [.int 0, .ref ta, .int zs, .int po, .int fa, .ref da, .ref ra, .ref la, .long we, .long le, .int pk, .int pm, .int co, .ref pa, .int pl, .ref xa, .ref ya, .int mb, .ref ea, .ref wa]))] := hD
      refine lv_iconst (v := 1) hx hb dR_count_31 (by decide) ?_
      refine lv_istore (lv' := [(5, .int 1), (0, .ref h0), (1, .long load), (3, .long one)]) hx hb dR_count_32 hl (by decide) rfl (fun ls hl => ?_)
      have lp_34 : ∀ (n_34 : Nat) (wn : Int32), (xl_c 1 101 n_34 wn) → gR_count le load one = kR_count_34c_0 le load one n_34 wn → gR_count_0 le load one = kR_count_34c_1 le load one n_34 wn → ∀ (H : Heap) (locs : List Loc), va_P (dC, dI) classes [(h0, .inr (3, [.int 0, .ref ta, .int zs, .int po, .int fa, .ref da, .ref ra, .ref la, .long we, .long le, .int pk, .int pm, .int co, .ref pa, .int pl, .ref xa, .ref ya, .int mb, .ref ea, .ref wa]))] H → va_D A [(h0, .inr (3, [.int 0, .ref ta, .int zs, .int po, .int fa, .ref da, .ref ra, .ref la, .long we, .long le, .int pk, .int pm, .int co, .ref pa, .int pl, .ref xa, .ref ya, .int mb, .ref ea, .ref wa]))] → va_S A s.heap H locs → ∀ ls : Array Slot, lv_has ls 6 [(5, .int wn), (0, .ref h0), (1, .long load), (3, .long one)] → W p l e (headSpec [.code yR_count bR_count 6 (some (.int))] ({ frames := 1, cells := 0, slots := 0, locals := 26 })).room s m ([.ref h0, .long load, .long one] : List Value).toArray below meth c H locs 0 0 (MQ below (xb_W (dC, dI) (fun v9 w9 => v9 = some (.int (gR_count le load one)) ∧ w9 = [(h0, .inr (3, [.int (gR_count_0 le load one), .ref ta, .int zs, .int po, .int fa, .ref da, .ref ra, .ref la, .long we, .long le, .int pk, .int pm, .int co, .ref pa, .int pl, .ref xa, .ref ya, .int mb, .ref ea, .ref wa]))]) A) ([.ref h0, .long load, .long one] : List Value).toArray s 0 0 A) (F0 m 34 ls []) := by
        intro n_34
        induction n_34 with
        | zero =>
          intro wn hinv_34
          exact xl_0 hinv_34
        | succ n_34 ih_34 =>
          intro wn hinv_34 hres_34_0 hres_34_1 H locs hP hD hS ls hl
          refine lv_aload_n hx hb dR_count_34 rfl (lv_at hl 1 rfl) ?_
          refine va_get (D := (dC, dI)) (ci := 3) (v := .int 0) (C := xR_R) (T := xF_R) (N := 20) hx hb hts xi_R hown hK hP 0 rfl rfl 0 (by decide) (hts _ xk_646) (fun _ h9 => h9) rfl dR_count_35 ?_
          refine lv_if_ne (tgt := 67) hx hb dR_count_38 (by decide) (fun c_7 => ?_) (fun c_7 => ?_)
          · exact absurd c_7 (by decide)
          · refine lv_iload hx hb dR_count_41 (lv_at hl 0 rfl) ?_
            refine lv_bipush (v := 100) hx hb dR_count_43 (by decide) ?_
            refine lv_icmp_gt (tgt := 67) hx hb dR_count_45 (by decide) (fun c_8 => ?_) (fun c_8 => ?_)
            · refine lv_aload_n hx hb dR_count_67 rfl (lv_at hl 1 rfl) ?_
              refine va_get (D := (dC, dI)) (ci := 3) (v := .int 0) (C := xR_R) (T := xF_R) (N := 20) hx hb hts xi_R hown hK hP 0 rfl rfl 0 (by decide) (hts _ xk_646) (fun _ h9 => h9) rfl dR_count_68 ?_
              refine lv_if_le (tgt := 78) hx hb dR_count_71 (by decide) (fun c_9 => ?_) (fun c_9 => ?_)
              · refine lv_iload hx hb dR_count_78 (lv_at hl 0 rfl) ?_
                refine lv_bipush (v := 100) hx hb dR_count_80 (by decide) ?_
                refine lv_icmp_le (tgt := 89) hx hb dR_count_82 (by decide) (fun c_10 => ?_) (fun c_10 => ?_)
                · refine lv_iload hx hb dR_count_89 (lv_at hl 0 rfl) ?_
                  have e_0 : gR_count le load one = wn := hres_34_0.trans ((if_pos c_8).trans ((if_pos c_10).trans (rfl)))
                  have e_1 : gR_count_0 le load one = (0 : Int32) := hres_34_1.trans ((if_pos c_8).trans ((if_pos c_10).trans (rfl)))
                  have hP9 := hP.sub (ws' := [(h0, .inr (3, [.int 0, .ref ta, .int zs, .int po, .int fa, .ref da, .ref ra, .ref la, .long we, .long le, .int pk, .int pm, .int co, .ref pa, .int pl, .ref xa, .ref ya, .int mb, .ref ea, .ref wa]))]) [0] rfl
                  have hD9 := hD.sub (ws' := [(h0, .inr (3, [.int 0, .ref ta, .int zs, .int po, .int fa, .ref da, .ref ra, .ref la, .long we, .long le, .int pk, .int pm, .int co, .ref pa, .int pl, .ref xa, .ref ya, .int mb, .ref ea, .ref wa]))]) [0] (by decide) rfl
                  exact W.iret (v := wn) hx hb hr (fun t ht hW => ⟨_, _, rfl, ⟨by first | rfl | (simp only [e_0, e_1]; try rfl), by first | rfl | (simp only [e_0, e_1]; try rfl)⟩, by rw [ht]; exact hP9, hD9, hS.F ht⟩) hS.2.2 dR_count_91
                · refine lv_iconst (v := (-1)) hx hb dR_count_85 (by decide) ?_
                  refine lv_goto (tgt := 91) hx hb dR_count_86 (by decide) ?_
                  have e_0 : gR_count le load one = ((-1) : Int32) := hres_34_0.trans ((if_pos c_8).trans ((if_neg c_10).trans (rfl)))
                  have e_1 : gR_count_0 le load one = (0 : Int32) := hres_34_1.trans ((if_pos c_8).trans ((if_neg c_10).trans (rfl)))
                  have hP9 := hP.sub (ws' := [(h0, .inr (3, [.int 0, .ref ta, .int zs, .int po, .int fa, .ref da, .ref ra, .ref la, .long we, .long le, .int pk, .int pm, .int co, .ref pa, .int pl, .ref xa, .ref ya, .int mb, .ref ea, .ref wa]))]) [0] rfl
                  have hD9 := hD.sub (ws' := [(h0, .inr (3, [.int 0, .ref ta, .int zs, .int po, .int fa, .ref da, .ref ra, .ref la, .long we, .long le, .int pk, .int pm, .int co, .ref pa, .int pl, .ref xa, .ref ya, .int mb, .ref ea, .ref wa]))]) [0] (by decide) rfl
                  exact W.iret (v := (-1)) hx hb hr (fun t ht hW => ⟨_, _, rfl, ⟨by first | rfl | (simp only [e_0, e_1]; try rfl), by first | rfl | (simp only [e_0, e_1]; try rfl)⟩, by rw [ht]; exact hP9, hD9, hS.F ht⟩) hS.2.2 dR_count_91
              · exact absurd c_9 (by decide)
            · refine lv_aload_n hx hb dR_count_48 rfl (lv_at hl 1 rfl) ?_
              refine lv_iload hx hb dR_count_49 (lv_at hl 0 rfl) ?_
              refine lv_i2l hx hb dR_count_51 rfl ?_
              refine lv_lload_n hx hb dR_count_52 rfl (lv_at hl 3 rfl) ?_
              refine xb_rd (W.runV (C := "NailRulesModel") (As := [.long wn.toInt64, .long one]) (rest := []) ⟨hx, hb, hml, hown, hts⟩ (cR_all l E h0 ([.int 0, .ref ta, .int zs, .int po, .int fa, .ref da, .ref ra, .ref la, .long we, .long le, .int pk, .int pm, .int co, .ref pa, .int pl, .ref xa, .ref ya, .int mb, .ref ea, .ref wa]) le wn.toInt64 one rfl) (cwV 2 hts (xb_gi (List.forall_mem_cons.mpr ⟨xk_778, List.forall_mem_cons.mpr ⟨xk_780, List.forall_mem_cons.mpr ⟨xk_35, List.forall_mem_cons.mpr ⟨xk_45, List.forall_mem_cons.mpr ⟨xk_781, fun _ h => absurd h List.not_mem_nil⟩⟩⟩⟩⟩)) rfl rfl rfl (by decide +kernel) ⟨Nat.le_of_ble_eq_true rfl, Nat.le_of_ble_eq_true rfl⟩) ⟨fun _ _ _ _ q => q, va_recv hK hP (ci := 3) (q0 := 0) rfl rfl, fun U hU hW => ⟨rfl, xb_atS hAt hS hA0 hU hW, by rw [hU]; exact hP.sub (ws' := [(h0, .inr (3, [.int 0, .ref ta, .int zs, .int po, .int fa, .ref da, .ref ra, .ref la, .long we, .long le, .int pk, .int pm, .int co, .ref pa, .int pl, .ref xa, .ref ya, .int mb, .ref ea, .ref wa]))]) [0] rfl⟩⟩ rfl rfl hl.1 rfl (lv_room (Nat.le_of_ble_eq_true rfl)) dR_count_53 ⟨Nat.zero_le _, Nat.zero_le _⟩) ?_
              refine lv_lload_n hx hb dR_count_56 rfl (lv_at hl 2 rfl) ?_
              refine W.lcmp hx hb dR_count_57 ?_
              refine lv_if_ge (tgt := 67) hx hb dR_count_58 (by decide) (fun c_11 => ?_) (fun c_11 => ?_)
              · have c_11 := (lg_cmp_ge _ _).mp c_11
                refine lv_aload_n hx hb dR_count_67 rfl (lv_at hl 1 rfl) ?_
                refine va_get (D := (dC, dI)) (ci := 3) (v := .int 0) (C := xR_R) (T := xF_R) (N := 20) hx hb hts xi_R hown hK hP 0 rfl rfl 0 (by decide) (hts _ xk_646) (fun _ h9 => h9) rfl dR_count_68 ?_
                refine lv_if_le (tgt := 78) hx hb dR_count_71 (by decide) (fun c_12 => ?_) (fun c_12 => ?_)
                · refine lv_iload hx hb dR_count_78 (lv_at hl 0 rfl) ?_
                  refine lv_bipush (v := 100) hx hb dR_count_80 (by decide) ?_
                  refine lv_icmp_le (tgt := 89) hx hb dR_count_82 (by decide) (fun c_13 => ?_) (fun c_13 => ?_)
                  · refine lv_iload hx hb dR_count_89 (lv_at hl 0 rfl) ?_
                    have e_0 : gR_count le load one = wn := hres_34_0.trans ((if_neg c_8).trans ((if_pos c_11).trans ((if_pos c_13).trans (rfl))))
                    have e_1 : gR_count_0 le load one = (0 : Int32) := hres_34_1.trans ((if_neg c_8).trans ((if_pos c_11).trans ((if_pos c_13).trans (rfl))))
                    have hP9 := hP.sub (ws' := [(h0, .inr (3, [.int 0, .ref ta, .int zs, .int po, .int fa, .ref da, .ref ra, .ref la, .long we, .long le, .int pk, .int pm, .int co, .ref pa, .int pl, .ref xa, .ref ya, .int mb, .ref ea, .ref wa]))]) [0] rfl
                    have hD9 := hD.sub (ws' := [(h0, .inr (3, [.int 0, .ref ta, .int zs, .int po, .int fa, .ref da, .ref ra, .ref la, .long we, .long le, .int pk, .int pm, .int co, .ref pa, .int pl, .ref xa, .ref ya, .int mb, .ref ea, .ref wa]))]) [0] (by decide) rfl
                    exact W.iret (v := wn) hx hb hr (fun t ht hW => ⟨_, _, rfl, ⟨by first | rfl | (simp only [e_0, e_1]; try rfl), by first | rfl | (simp only [e_0, e_1]; try rfl)⟩, by rw [ht]; exact hP9, hD9, hS.F ht⟩) hS.2.2 dR_count_91
                  · refine lv_iconst (v := (-1)) hx hb dR_count_85 (by decide) ?_
                    refine lv_goto (tgt := 91) hx hb dR_count_86 (by decide) ?_
                    have e_0 : gR_count le load one = ((-1) : Int32) := hres_34_0.trans ((if_neg c_8).trans ((if_pos c_11).trans ((if_neg c_13).trans (rfl))))
                    have e_1 : gR_count_0 le load one = (0 : Int32) := hres_34_1.trans ((if_neg c_8).trans ((if_pos c_11).trans ((if_neg c_13).trans (rfl))))
                    have hP9 := hP.sub (ws' := [(h0, .inr (3, [.int 0, .ref ta, .int zs, .int po, .int fa, .ref da, .ref ra, .ref la, .long we, .long le, .int pk, .int pm, .int co, .ref pa, .int pl, .ref xa, .ref ya, .int mb, .ref ea, .ref wa]))]) [0] rfl
                    have hD9 := hD.sub (ws' := [(h0, .inr (3, [.int 0, .ref ta, .int zs, .int po, .int fa, .ref da, .ref ra, .ref la, .long we, .long le, .int pk, .int pm, .int co, .ref pa, .int pl, .ref xa, .ref ya, .int mb, .ref ea, .ref wa]))]) [0] (by decide) rfl
                    exact W.iret (v := (-1)) hx hb hr (fun t ht hW => ⟨_, _, rfl, ⟨by first | rfl | (simp only [e_0, e_1]; try rfl), by first | rfl | (simp only [e_0, e_1]; try rfl)⟩, by rw [ht]; exact hP9, hD9, hS.F ht⟩) hS.2.2 dR_count_91
                · exact absurd c_12 (by decide)
              · have c_11 := fun q => c_11 ((lg_cmp_ge _ _).mpr q)
                refine lv_iinc (v := wn + 1) (lv' := [(5, .int (wn + 1)), (0, .ref h0), (1, .long load), (3, .long one)]) hx hb dR_count_61 hl (k := 0) rfl rfl (by decide) rfl (fun ls hl => ?_)
                refine lv_goto (tgt := 34) hx hb dR_count_64 (by decide) ?_
                have v_inv : xl_c 1 101 n_34 (wn + 1) := xl_s2 (b := 100) hinv_34 (by decide) (by decide) c_8
                have v_0 : gR_count le load one = kR_count_34c_0 le load one n_34 (wn + 1) := hres_34_0.trans ((if_neg c_8).trans ((if_neg c_11).trans (rfl)))
                have v_1 : gR_count_0 le load one = kR_count_34c_1 le load one n_34 (wn + 1) := hres_34_1.trans ((if_neg c_8).trans ((if_neg c_11).trans (rfl)))
                exact ih_34 (wn + 1) v_inv v_0 v_1 _ _ (hP.sub (ws' := [(h0, .inr (3, [.int 0, .ref ta, .int zs, .int po, .int fa, .ref da, .ref ra, .ref la, .long we, .long le, .int pk, .int pm, .int co, .ref pa, .int pl, .ref xa, .ref ya, .int mb, .ref ea, .ref wa]))]) [0] rfl) (hD.sub (ws' := [(h0, .inr (3, [.int 0, .ref ta, .int zs, .int po, .int fa, .ref da, .ref ra, .ref la, .long we, .long le, .int pk, .int pm, .int co, .ref pa, .int pl, .ref xa, .ref ya, .int mb, .ref ea, .ref wa]))]) [0] (by decide) rfl) hS ls (lv_sub hl [0, 1, 2, 3] rfl)
      have v_inv : xl_c 1 101 101 (1 : Int32) := ⟨1, rfl, by omega, by omega, by omega⟩
      have v_0 : gR_count le load one = kR_count_34c_0 le load one 101 (1) := (if_pos c_1).trans ((if_pos c_4).trans (rfl))
      have v_1 : gR_count_0 le load one = kR_count_34c_1 le load one 101 (1) := (if_pos c_1).trans ((if_pos c_4).trans (rfl))
      exact lp_34 101 (1) v_inv v_0 v_1 _ _ (hP.sub (ws' := [(h0, .inr (3, [.int 0, .ref ta, .int zs, .int po, .int fa, .ref da, .ref ra, .ref la, .long we, .long le, .int pk, .int pm, .int co, .ref pa, .int pl, .ref xa, .ref ya, .int mb, .ref ea, .ref wa]))]) [0] rfl) (hD.sub (ws' := [(h0, .inr (3, [.int 0, .ref ta, .int zs, .int po, .int fa, .ref da, .ref ra, .ref la, .long we, .long le, .int pk, .int pm, .int co, .ref pa, .int pl, .ref xa, .ref ya, .int mb, .ref ea, .ref wa]))]) [0] (by decide) rfl) hS ls (lv_sub hl [0, 1, 2, 3] rfl)

def gR_at (pf : Nat → Int32) (pk : Int32) (pm : Int32) (co : Int32) (k1 : Int32) (axis : Int32) : Int32 := if pk = (-1) then ((0)) else (if (fR_isIn k1.toInt64 (0) (pm.toInt64 - 1)) = true then (if axis = 0 then (if axis = 0 then ((pf (0 : Int32).toNatClampNeg) + ((k1 - k1 / co * co) * (pf (1 : Int32).toNatClampNeg))) else ((pf (2 : Int32).toNatClampNeg) + ((k1 / co) * (pf (3 : Int32).toNatClampNeg)))) else (if axis = 1 then (if axis = 0 then ((pf (0 : Int32).toNatClampNeg) + ((k1 - k1 / co * co) * (pf (1 : Int32).toNatClampNeg))) else ((pf (2 : Int32).toNatClampNeg) + ((k1 / co) * (pf (3 : Int32).toNatClampNeg)))) else ((0)))) else ((0)))
def gR_at_0 (pf : Nat → Int32) (pk : Int32) (pm : Int32) (co : Int32) (k1 : Int32) (axis : Int32) : Int32 := if pk = (-1) then ((1)) else (if (fR_isIn k1.toInt64 (0) (pm.toInt64 - 1)) = true then (if axis = 0 then (if axis = 0 then ((0)) else ((0))) else (if axis = 1 then (if axis = 0 then ((0)) else ((0))) else ((2)))) else ((2)))
set_option maxHeartbeats 4000000 in
set_option maxRecDepth 100000 in
theorem cR_at (l : Launch) {s0 : State} {dC : Nat → ClassId} {dI : Nat → Nat → Nat} {cI cC cL cO : ClassId} (E : xb_Env l s0 dC dI (xtys cI cC cL cO)) (sz : Nat) (h0 : Nat) (pa : Nat) (th : Int32) (ta : Nat) (zs : Int32) (po : Int32) (fa : Int32) (da : Nat) (ra : Nat) (la : Nat) (we : Int64) (le : Int64) (pk : Int32) (pm : Int32) (co : Int32) (pl : Int32) (xa : Nat) (ya : Nat) (mb : Int32) (ea : Nat) (wa : Nat) (pf : Nat → Int32) (k1 : Int32) (axis : Int32) (hco : ¬ pk = (-1) → ¬ co = 0) : Met l yR_at [.code yR_at bR_at 3 (some (.int))] ({ frames := 1, cells := 0, slots := 0, locals := 25 }) (va_Pc [.ref h0, .int k1, .int axis] (fun U => xb_At s0 U ∧ U.heap.size = sz ∧ va_P (dC, dI) classes [(h0, .inr (3, [.int th, .ref ta, .int zs, .int po, .int fa, .ref da, .ref ra, .ref la, .long we, .long le, .int pk, .int pm, .int co, .ref pa, .int pl, .ref xa, .ref ya, .int mb, .ref ea, .ref wa])), (pa, .inl (cI, 4, .inl pf))] U.heap ∧ va_D (fun q => s0.heap.size ≤ q) [(h0, .inr (3, [.int th, .ref ta, .int zs, .int po, .int fa, .ref da, .ref ra, .ref la, .long we, .long le, .int pk, .int pm, .int co, .ref pa, .int pl, .ref xa, .ref ya, .int mb, .ref ea, .ref wa])), (pa, .inl (cI, 4, .inl pf))])) (xb_W (dC, dI) (fun v9 w9 => v9 = some (.int (gR_at pf pk pm co k1 axis)) ∧ w9 = [(h0, .inr (3, [.int (gR_at_0 pf pk pm co k1 axis), .ref ta, .int zs, .int po, .int fa, .ref da, .ref ra, .ref la, .long we, .long le, .int pk, .int pm, .int co, .ref pa, .int pl, .ref xa, .ref ya, .int mb, .ref ea, .ref wa])), (pa, .inl (cI, 4, .inl pf))]) (va_A [(h0, .inr (3, [.int th, .ref ta, .int zs, .int po, .int fa, .ref da, .ref ra, .ref la, .long we, .long le, .int pk, .int pm, .int co, .ref pa, .int pl, .ref xa, .ref ya, .int mb, .ref ea, .ref wa])), (pa, .inl (cI, 4, .inl pf))] sz)) 0 0 (va_A [(h0, .inr (3, [.int th, .ref ta, .int zs, .int po, .int fa, .ref da, .ref ra, .ref la, .long we, .long le, .int pk, .int pm, .int co, .ref pa, .int pl, .ref xa, .ref ya, .int mb, .ref ea, .ref wa])), (pa, .inl (cI, 4, .inl pf))] sz) := by
  refine Met.ofW (cc := bR_at) (maxL := 3) (ret := (some (.int))) (by decide) rfl ?_
  intro p e s m args below meth c s₁ B hml hv
  obtain ⟨rfl, hAt, hsz, hP, hD0⟩ := hv
  have hx := B.exec
  have hb := B.bytes
  have hr := B.returns
  have hts := xb_hts E hAt ([.ref h0, .int k1, .int axis] : List Value).toArray
  have hown : s.vm.findClass "NailRulesModel" = some m.cls := findClass_of_methodNamed B.named
  have hlocks := B.notSynchronized
  have hK := xb_K E hAt
  subst hsz
  have hA0 := xb_A0 hAt hD0
  have hD := hD0.self (sz := s.heap.size)
  generalize hAe : va_A [(h0, .inr (3, [.int th, .ref ta, .int zs, .int po, .int fa, .ref da, .ref ra, .ref la, .long we, .long le, .int pk, .int pm, .int co, .ref pa, .int pl, .ref xa, .ref ya, .int mb, .ref ea, .ref wa])), (pa, .inl (cI, 4, .inl pf))] s.heap.size = A at hD hA0 ⊢
  have hA : ∀ q : Nat, s.heap.size ≤ q → A q := fun q h => by rw [← hAe]; exact Or.inr h
  have hS : va_S A s.heap s.heap [] := va_S.rf
  have hl := lv_entry ([.ref h0, .int k1, .int axis]) (n := 3) (Nat.le_of_ble_eq_true rfl)
  rw [lg_entry_eq]
  generalize (lg_sl ([.ref h0, .int k1, .int axis]) ++ List.replicate (3 - (lg_sl ([.ref h0, .int k1, .int axis])).length) Slot.unset).toArray = ls at hl ⊢
  have hl : lv_has ls 3 [(0, .ref h0), (1, .int k1), (2, .int axis)] := hl
  refine lv_aload_n hx hb dR_at_0 rfl (lv_at hl 0 rfl) ?_
  refine lv_aload_n hx hb dR_at_1 rfl (lv_at hl 0 rfl) ?_
  refine va_get (D := (dC, dI)) (ci := 3) (v := .int pk) (C := xR_R) (T := xF_R) (N := 20) hx hb hts xi_R hown hK hP 0 rfl rfl 10 (by decide) (hts _ xk_656) (fun _ h9 => h9) rfl dR_at_2 ?_
  refine lv_iconst (v := (-1)) hx hb dR_at_5 (by decide) ?_
  refine lv_icmp_ne (tgt := 13) hx hb dR_at_6 (by decide) (fun c_1 => ?_) (fun c_1 => ?_)
  · refine lv_iload_n hx hb dR_at_13 rfl (lv_at hl 1 rfl) ?_
    refine lv_i2l hx hb dR_at_14 rfl ?_
    refine lv_lconst (v := 0) hx hb dR_at_15 (by decide) ?_
    refine lv_aload_n hx hb dR_at_16 rfl (lv_at hl 0 rfl) ?_
    refine va_get (D := (dC, dI)) (ci := 3) (v := .int pm) (C := xR_R) (T := xF_R) (N := 20) hx hb hts xi_R hown hK hP 0 rfl rfl 11 (by decide) (hts _ xk_657) (fun _ h9 => h9) rfl dR_at_17 ?_
    refine lv_i2l hx hb dR_at_20 rfl ?_
    refine lv_lconst (v := 1) hx hb dR_at_21 (by decide) ?_
    refine lv_lsub hx hb dR_at_22 ?_
    refine xb_rd (W.runS (As := [.long k1.toInt64, .long 0, .long (pm.toInt64 - 1)]) (rest := [.ref h0]) ⟨hx, hb, hml, hown, hts⟩ (cR_isIn l E k1.toInt64 0 (pm.toInt64 - 1)) (cwS 3 hts (xb_gi (List.forall_mem_cons.mpr ⟨xk_754, List.forall_mem_cons.mpr ⟨xk_755, List.forall_mem_cons.mpr ⟨xk_45, List.forall_mem_cons.mpr ⟨xk_756, fun _ h => absurd h List.not_mem_nil⟩⟩⟩⟩)) rfl rfl rfl (by decide +kernel) ⟨Nat.le_of_ble_eq_true rfl, Nat.le_of_ble_eq_true rfl⟩) ⟨fun _ _ _ _ q => q, fun U hU hW => ⟨rfl, xb_atS hAt hS hA0 hU hW, fun k q h => by simp at h⟩⟩ rfl rfl hl.1 rfl (lv_room (Nat.le_of_ble_eq_true rfl)) dR_at_23 ⟨Nat.zero_le _, Nat.zero_le _⟩) ?_
    refine lv_if_eq (tgt := 42) hx hb dR_at_26 (by decide) (fun c_2 => ?_) (fun c_2 => ?_)
    · have c_2 := xb_bi_f.mp c_2
      refine lv_iconst (v := 2) hx hb dR_at_42 (by decide) ?_
      refine va_put (D := (dC, dI)) (ci := 3) (v := .int 2) (ty := .int) (C := xR_R) (T := xF_R) (N := 20) hx hb hts xi_R xt_R xt_R_ok xn_R hown hK hP hD hS 0 rfl rfl 0 (by decide) (hts _ xk_646) (fun _ h9 => h9) rfl (by decide +kernel) rfl rfl (Nat.le_of_ble_eq_true rfl) dR_at_43 (fun H locs hP hD hS => ?_)
      have hP : va_P (dC, dI) classes [(h0, .inr (3, [.int 2, .ref ta, .int zs, .int po, .int fa, .ref da, .ref ra, .ref la, .long we, .long le, .int pk, .int pm, .int co, .ref pa, .int pl, .ref xa, .ref ya, .int mb, .ref ea, .ref wa])), (pa, .inl (cI, 4, .inl pf))] H := hP
      have hD : va_D A [(h0, .inr (3, [.int 2, .ref ta, .int zs, .int po, .int fa, .ref da, .ref ra, .ref la, .long we, .long le, .int pk, .int pm, .int co, .ref pa, .int pl, .ref xa, .ref ya, .int mb, .ref ea, .ref wa])), (pa, .inl (cI, 4, .inl pf))] := hD
      refine lv_aload_n hx hb dR_at_46 rfl (lv_at hl 0 rfl) ?_
      refine va_get (D := (dC, dI)) (ci := 3) (v := .int 2) (C := xR_R) (T := xF_R) (N := 20) hx hb hts xi_R hown hK hP 0 rfl rfl 0 (by decide) (hts _ xk_646) (fun _ h9 => h9) rfl dR_at_47 ?_
      refine lv_if_le (tgt := 55) hx hb dR_at_50 (by decide) (fun c_3 => ?_) (fun c_3 => ?_)
      · exact absurd c_3 (by decide)
      · refine lv_iconst (v := 0) hx hb dR_at_53 (by decide) ?_
        have e_0 : gR_at pf pk pm co k1 axis = (0 : Int32) := (if_neg c_1).trans ((if_neg c_2).trans (rfl))
        have e_1 : gR_at_0 pf pk pm co k1 axis = (2 : Int32) := (if_neg c_1).trans ((if_neg c_2).trans (rfl))
        have hP9 := hP.sub (ws' := [(h0, .inr (3, [.int 2, .ref ta, .int zs, .int po, .int fa, .ref da, .ref ra, .ref la, .long we, .long le, .int pk, .int pm, .int co, .ref pa, .int pl, .ref xa, .ref ya, .int mb, .ref ea, .ref wa])), (pa, .inl (cI, 4, .inl pf))]) [0, 1] rfl
        have hD9 := hD.sub (ws' := [(h0, .inr (3, [.int 2, .ref ta, .int zs, .int po, .int fa, .ref da, .ref ra, .ref la, .long we, .long le, .int pk, .int pm, .int co, .ref pa, .int pl, .ref xa, .ref ya, .int mb, .ref ea, .ref wa])), (pa, .inl (cI, 4, .inl pf))]) [0, 1] (by decide) rfl
        exact W.iret (v := 0) hx hb hr (fun t ht hW => ⟨_, _, rfl, ⟨by first | rfl | (simp only [e_0, e_1]; try rfl), by first | rfl | (simp only [e_0, e_1]; try rfl)⟩, by rw [ht]; exact hP9, hD9, hS.F ht⟩) hS.2.2 dR_at_54
    · have c_2 := xb_bi_t.mp c_2
      refine lv_iload_n hx hb dR_at_29 rfl (lv_at hl 2 rfl) ?_
      refine lv_if_eq (tgt := 38) hx hb dR_at_30 (by decide) (fun c_4 => ?_) (fun c_4 => ?_)
      · refine lv_iconst (v := 0) hx hb dR_at_38 (by decide) ?_
        refine lv_goto (tgt := 43) hx hb dR_at_39 (by decide) ?_
        refine va_put (D := (dC, dI)) (ci := 3) (v := .int 0) (ty := .int) (C := xR_R) (T := xF_R) (N := 20) hx hb hts xi_R xt_R xt_R_ok xn_R hown hK hP hD hS 0 rfl rfl 0 (by decide) (hts _ xk_646) (fun _ h9 => h9) rfl (by decide +kernel) rfl rfl (Nat.le_of_ble_eq_true rfl) dR_at_43 (fun H locs hP hD hS => ?_)
        have hP : va_P (dC, dI) classes [(h0, .inr (3, [.int 0, .ref ta, .int zs, .int po, .int fa, .ref da, .ref ra, .ref la, .long we, .long le, .int pk, .int pm, .int co, .ref pa, .int pl, .ref xa, .ref ya, .int mb, .ref ea, .ref wa])), (pa, .inl (cI, 4, .inl pf))] H := hP
        have hD : va_D A [(h0, .inr (3, [.int 0, .ref ta, .int zs, .int po, .int fa, .ref da, .ref ra, .ref la, .long we, .long le, .int pk, .int pm, .int co, .ref pa, .int pl, .ref xa, .ref ya, .int mb, .ref ea, .ref wa])), (pa, .inl (cI, 4, .inl pf))] := hD
        refine lv_aload_n hx hb dR_at_46 rfl (lv_at hl 0 rfl) ?_
        refine va_get (D := (dC, dI)) (ci := 3) (v := .int 0) (C := xR_R) (T := xF_R) (N := 20) hx hb hts xi_R hown hK hP 0 rfl rfl 0 (by decide) (hts _ xk_646) (fun _ h9 => h9) rfl dR_at_47 ?_
        refine lv_if_le (tgt := 55) hx hb dR_at_50 (by decide) (fun c_5 => ?_) (fun c_5 => ?_)
        · refine lv_iload_n hx hb dR_at_55 rfl (lv_at hl 2 rfl) ?_
          refine lv_if_ne (tgt := 82) hx hb dR_at_56 (by decide) (fun c_6 => ?_) (fun c_6 => ?_)
          · refine lv_aload_n hx hb dR_at_82 rfl (lv_at hl 0 rfl) ?_
            refine va_get (D := (dC, dI)) (ci := 3) (v := .ref pa) (C := xR_R) (T := xF_R) (N := 20) hx hb hts xi_R hown hK hP 0 rfl rfl 13 (by decide) (hts _ xk_659) (fun _ h9 => h9) rfl dR_at_83 ?_
            refine lv_iconst (v := 2) hx hb dR_at_86 (by decide) ?_
            have o_7 : vp_in (2 : Int32) 4 := by unfold vp_in; decide
            refine va_iald hx hb hK hP 1 0 rfl rfl o_7 dR_at_87 ?_
            refine lv_iload_n hx hb dR_at_88 rfl (lv_at hl 1 rfl) ?_
            refine lv_aload_n hx hb dR_at_89 rfl (lv_at hl 0 rfl) ?_
            refine va_get (D := (dC, dI)) (ci := 3) (v := .int co) (C := xR_R) (T := xF_R) (N := 20) hx hb hts xi_R hown hK hP 0 rfl rfl 12 (by decide) (hts _ xk_658) (fun _ h9 => h9) rfl dR_at_90 ?_
            refine lv_idiv hx hb dR_at_93 (hco (by assumption)) ?_
            refine lv_aload_n hx hb dR_at_94 rfl (lv_at hl 0 rfl) ?_
            refine va_get (D := (dC, dI)) (ci := 3) (v := .ref pa) (C := xR_R) (T := xF_R) (N := 20) hx hb hts xi_R hown hK hP 0 rfl rfl 13 (by decide) (hts _ xk_659) (fun _ h9 => h9) rfl dR_at_95 ?_
            refine lv_iconst (v := 3) hx hb dR_at_98 (by decide) ?_
            have o_8 : vp_in (3 : Int32) 4 := by unfold vp_in; decide
            refine va_iald hx hb hK hP 1 0 rfl rfl o_8 dR_at_99 ?_
            refine lv_imul hx hb dR_at_100 ?_
            refine lv_iadd hx hb dR_at_101 ?_
            have e_0 : gR_at pf pk pm co k1 axis = ((pf (2 : Int32).toNatClampNeg) + ((k1 / co) * (pf (3 : Int32).toNatClampNeg))) := (if_neg c_1).trans ((if_pos c_2).trans ((if_pos c_4).trans ((if_neg c_6).trans (rfl))))
            have e_1 : gR_at_0 pf pk pm co k1 axis = (0 : Int32) := (if_neg c_1).trans ((if_pos c_2).trans ((if_pos c_4).trans ((if_neg c_6).trans (rfl))))
            have hP9 := hP.sub (ws' := [(h0, .inr (3, [.int 0, .ref ta, .int zs, .int po, .int fa, .ref da, .ref ra, .ref la, .long we, .long le, .int pk, .int pm, .int co, .ref pa, .int pl, .ref xa, .ref ya, .int mb, .ref ea, .ref wa])), (pa, .inl (cI, 4, .inl pf))]) [0, 1] rfl
            have hD9 := hD.sub (ws' := [(h0, .inr (3, [.int 0, .ref ta, .int zs, .int po, .int fa, .ref da, .ref ra, .ref la, .long we, .long le, .int pk, .int pm, .int co, .ref pa, .int pl, .ref xa, .ref ya, .int mb, .ref ea, .ref wa])), (pa, .inl (cI, 4, .inl pf))]) [0, 1] (by decide) rfl
            exact W.iret (v := ((pf (2 : Int32).toNatClampNeg) + ((k1 / co) * (pf (3 : Int32).toNatClampNeg)))) hx hb hr (fun t ht hW => ⟨_, _, rfl, ⟨by first | rfl | (simp only [e_0, e_1]; try rfl), by first | rfl | (simp only [e_0, e_1]; try rfl)⟩, by rw [ht]; exact hP9, hD9, hS.F ht⟩) hS.2.2 dR_at_102
          · refine lv_aload_n hx hb dR_at_59 rfl (lv_at hl 0 rfl) ?_
            refine va_get (D := (dC, dI)) (ci := 3) (v := .ref pa) (C := xR_R) (T := xF_R) (N := 20) hx hb hts xi_R hown hK hP 0 rfl rfl 13 (by decide) (hts _ xk_659) (fun _ h9 => h9) rfl dR_at_60 ?_
            refine lv_iconst (v := 0) hx hb dR_at_63 (by decide) ?_
            have o_9 : vp_in (0 : Int32) 4 := by unfold vp_in; decide
            refine va_iald hx hb hK hP 1 0 rfl rfl o_9 dR_at_64 ?_
            refine lv_iload_n hx hb dR_at_65 rfl (lv_at hl 1 rfl) ?_
            refine lv_aload_n hx hb dR_at_66 rfl (lv_at hl 0 rfl) ?_
            refine va_get (D := (dC, dI)) (ci := 3) (v := .int co) (C := xR_R) (T := xF_R) (N := 20) hx hb hts xi_R hown hK hP 0 rfl rfl 12 (by decide) (hts _ xk_658) (fun _ h9 => h9) rfl dR_at_67 ?_
            refine lv_irem hx hb dR_at_70 (hco (by assumption)) ?_
            refine lv_aload_n hx hb dR_at_71 rfl (lv_at hl 0 rfl) ?_
            refine va_get (D := (dC, dI)) (ci := 3) (v := .ref pa) (C := xR_R) (T := xF_R) (N := 20) hx hb hts xi_R hown hK hP 0 rfl rfl 13 (by decide) (hts _ xk_659) (fun _ h9 => h9) rfl dR_at_72 ?_
            refine lv_iconst (v := 1) hx hb dR_at_75 (by decide) ?_
            have o_10 : vp_in (1 : Int32) 4 := by unfold vp_in; decide
            refine va_iald hx hb hK hP 1 0 rfl rfl o_10 dR_at_76 ?_
            refine lv_imul hx hb dR_at_77 ?_
            refine lv_iadd hx hb dR_at_78 ?_
            refine lv_goto (tgt := 102) hx hb dR_at_79 (by decide) ?_
            have e_0 : gR_at pf pk pm co k1 axis = ((pf (0 : Int32).toNatClampNeg) + ((k1 - k1 / co * co) * (pf (1 : Int32).toNatClampNeg))) := (if_neg c_1).trans ((if_pos c_2).trans ((if_pos c_4).trans ((if_pos c_6).trans (rfl))))
            have e_1 : gR_at_0 pf pk pm co k1 axis = (0 : Int32) := (if_neg c_1).trans ((if_pos c_2).trans ((if_pos c_4).trans ((if_pos c_6).trans (rfl))))
            have hP9 := hP.sub (ws' := [(h0, .inr (3, [.int 0, .ref ta, .int zs, .int po, .int fa, .ref da, .ref ra, .ref la, .long we, .long le, .int pk, .int pm, .int co, .ref pa, .int pl, .ref xa, .ref ya, .int mb, .ref ea, .ref wa])), (pa, .inl (cI, 4, .inl pf))]) [0, 1] rfl
            have hD9 := hD.sub (ws' := [(h0, .inr (3, [.int 0, .ref ta, .int zs, .int po, .int fa, .ref da, .ref ra, .ref la, .long we, .long le, .int pk, .int pm, .int co, .ref pa, .int pl, .ref xa, .ref ya, .int mb, .ref ea, .ref wa])), (pa, .inl (cI, 4, .inl pf))]) [0, 1] (by decide) rfl
            exact W.iret (v := ((pf (0 : Int32).toNatClampNeg) + ((k1 - k1 / co * co) * (pf (1 : Int32).toNatClampNeg)))) hx hb hr (fun t ht hW => ⟨_, _, rfl, ⟨by first | rfl | (simp only [e_0, e_1]; try rfl), by first | rfl | (simp only [e_0, e_1]; try rfl)⟩, by rw [ht]; exact hP9, hD9, hS.F ht⟩) hS.2.2 dR_at_102
        · exact absurd c_5 (by decide)
      · refine lv_iload_n hx hb dR_at_33 rfl (lv_at hl 2 rfl) ?_
        refine lv_iconst (v := 1) hx hb dR_at_34 (by decide) ?_
        refine lv_icmp_ne (tgt := 42) hx hb dR_at_35 (by decide) (fun c_11 => ?_) (fun c_11 => ?_)
        · refine lv_iconst (v := 2) hx hb dR_at_42 (by decide) ?_
          refine va_put (D := (dC, dI)) (ci := 3) (v := .int 2) (ty := .int) (C := xR_R) (T := xF_R) (N := 20) hx hb hts xi_R xt_R xt_R_ok xn_R hown hK hP hD hS 0 rfl rfl 0 (by decide) (hts _ xk_646) (fun _ h9 => h9) rfl (by decide +kernel) rfl rfl (Nat.le_of_ble_eq_true rfl) dR_at_43 (fun H locs hP hD hS => ?_)
          have hP : va_P (dC, dI) classes [(h0, .inr (3, [.int 2, .ref ta, .int zs, .int po, .int fa, .ref da, .ref ra, .ref la, .long we, .long le, .int pk, .int pm, .int co, .ref pa, .int pl, .ref xa, .ref ya, .int mb, .ref ea, .ref wa])), (pa, .inl (cI, 4, .inl pf))] H := hP
          have hD : va_D A [(h0, .inr (3, [.int 2, .ref ta, .int zs, .int po, .int fa, .ref da, .ref ra, .ref la, .long we, .long le, .int pk, .int pm, .int co, .ref pa, .int pl, .ref xa, .ref ya, .int mb, .ref ea, .ref wa])), (pa, .inl (cI, 4, .inl pf))] := hD
          refine lv_aload_n hx hb dR_at_46 rfl (lv_at hl 0 rfl) ?_
          refine va_get (D := (dC, dI)) (ci := 3) (v := .int 2) (C := xR_R) (T := xF_R) (N := 20) hx hb hts xi_R hown hK hP 0 rfl rfl 0 (by decide) (hts _ xk_646) (fun _ h9 => h9) rfl dR_at_47 ?_
          refine lv_if_le (tgt := 55) hx hb dR_at_50 (by decide) (fun c_12 => ?_) (fun c_12 => ?_)
          · exact absurd c_12 (by decide)
          · refine lv_iconst (v := 0) hx hb dR_at_53 (by decide) ?_
            have e_0 : gR_at pf pk pm co k1 axis = (0 : Int32) := (if_neg c_1).trans ((if_pos c_2).trans ((if_neg c_4).trans ((if_neg c_11).trans (rfl))))
            have e_1 : gR_at_0 pf pk pm co k1 axis = (2 : Int32) := (if_neg c_1).trans ((if_pos c_2).trans ((if_neg c_4).trans ((if_neg c_11).trans (rfl))))
            have hP9 := hP.sub (ws' := [(h0, .inr (3, [.int 2, .ref ta, .int zs, .int po, .int fa, .ref da, .ref ra, .ref la, .long we, .long le, .int pk, .int pm, .int co, .ref pa, .int pl, .ref xa, .ref ya, .int mb, .ref ea, .ref wa])), (pa, .inl (cI, 4, .inl pf))]) [0, 1] rfl
            have hD9 := hD.sub (ws' := [(h0, .inr (3, [.int 2, .ref ta, .int zs, .int po, .int fa, .ref da, .ref ra, .ref la, .long we, .long le, .int pk, .int pm, .int co, .ref pa, .int pl, .ref xa, .ref ya, .int mb, .ref ea, .ref wa])), (pa, .inl (cI, 4, .inl pf))]) [0, 1] (by decide) rfl
            exact W.iret (v := 0) hx hb hr (fun t ht hW => ⟨_, _, rfl, ⟨by first | rfl | (simp only [e_0, e_1]; try rfl), by first | rfl | (simp only [e_0, e_1]; try rfl)⟩, by rw [ht]; exact hP9, hD9, hS.F ht⟩) hS.2.2 dR_at_54
        · refine lv_iconst (v := 0) hx hb dR_at_38 (by decide) ?_
          refine lv_goto (tgt := 43) hx hb dR_at_39 (by decide) ?_
          refine va_put (D := (dC, dI)) (ci := 3) (v := .int 0) (ty := .int) (C := xR_R) (T := xF_R) (N := 20) hx hb hts xi_R xt_R xt_R_ok xn_R hown hK hP hD hS 0 rfl rfl 0 (by decide) (hts _ xk_646) (fun _ h9 => h9) rfl (by decide +kernel) rfl rfl (Nat.le_of_ble_eq_true rfl) dR_at_43 (fun H locs hP hD hS => ?_)
          have hP : va_P (dC, dI) classes [(h0, .inr (3, [.int 0, .ref ta, .int zs, .int po, .int fa, .ref da, .ref ra, .ref la, .long we, .long le, .int pk, .int pm, .int co, .ref pa, .int pl, .ref xa, .ref ya, .int mb, .ref ea, .ref wa])), (pa, .inl (cI, 4, .inl pf))] H := hP
          have hD : va_D A [(h0, .inr (3, [.int 0, .ref ta, .int zs, .int po, .int fa, .ref da, .ref ra, .ref la, .long we, .long le, .int pk, .int pm, .int co, .ref pa, .int pl, .ref xa, .ref ya, .int mb, .ref ea, .ref wa])), (pa, .inl (cI, 4, .inl pf))] := hD
          refine lv_aload_n hx hb dR_at_46 rfl (lv_at hl 0 rfl) ?_
          refine va_get (D := (dC, dI)) (ci := 3) (v := .int 0) (C := xR_R) (T := xF_R) (N := 20) hx hb hts xi_R hown hK hP 0 rfl rfl 0 (by decide) (hts _ xk_646) (fun _ h9 => h9) rfl dR_at_47 ?_
          refine lv_if_le (tgt := 55) hx hb dR_at_50 (by decide) (fun c_13 => ?_) (fun c_13 => ?_)
          · refine lv_iload_n hx hb dR_at_55 rfl (lv_at hl 2 rfl) ?_
            refine lv_if_ne (tgt := 82) hx hb dR_at_56 (by decide) (fun c_14 => ?_) (fun c_14 => ?_)
            · refine lv_aload_n hx hb dR_at_82 rfl (lv_at hl 0 rfl) ?_
              refine va_get (D := (dC, dI)) (ci := 3) (v := .ref pa) (C := xR_R) (T := xF_R) (N := 20) hx hb hts xi_R hown hK hP 0 rfl rfl 13 (by decide) (hts _ xk_659) (fun _ h9 => h9) rfl dR_at_83 ?_
              refine lv_iconst (v := 2) hx hb dR_at_86 (by decide) ?_
              have o_15 : vp_in (2 : Int32) 4 := by unfold vp_in; decide
              refine va_iald hx hb hK hP 1 0 rfl rfl o_15 dR_at_87 ?_
              refine lv_iload_n hx hb dR_at_88 rfl (lv_at hl 1 rfl) ?_
              refine lv_aload_n hx hb dR_at_89 rfl (lv_at hl 0 rfl) ?_
              refine va_get (D := (dC, dI)) (ci := 3) (v := .int co) (C := xR_R) (T := xF_R) (N := 20) hx hb hts xi_R hown hK hP 0 rfl rfl 12 (by decide) (hts _ xk_658) (fun _ h9 => h9) rfl dR_at_90 ?_
              refine lv_idiv hx hb dR_at_93 (hco (by assumption)) ?_
              refine lv_aload_n hx hb dR_at_94 rfl (lv_at hl 0 rfl) ?_
              refine va_get (D := (dC, dI)) (ci := 3) (v := .ref pa) (C := xR_R) (T := xF_R) (N := 20) hx hb hts xi_R hown hK hP 0 rfl rfl 13 (by decide) (hts _ xk_659) (fun _ h9 => h9) rfl dR_at_95 ?_
              refine lv_iconst (v := 3) hx hb dR_at_98 (by decide) ?_
              have o_16 : vp_in (3 : Int32) 4 := by unfold vp_in; decide
              refine va_iald hx hb hK hP 1 0 rfl rfl o_16 dR_at_99 ?_
              refine lv_imul hx hb dR_at_100 ?_
              refine lv_iadd hx hb dR_at_101 ?_
              have e_0 : gR_at pf pk pm co k1 axis = ((pf (2 : Int32).toNatClampNeg) + ((k1 / co) * (pf (3 : Int32).toNatClampNeg))) := (if_neg c_1).trans ((if_pos c_2).trans ((if_neg c_4).trans ((if_pos c_11).trans ((if_neg c_14).trans (rfl)))))
              have e_1 : gR_at_0 pf pk pm co k1 axis = (0 : Int32) := (if_neg c_1).trans ((if_pos c_2).trans ((if_neg c_4).trans ((if_pos c_11).trans ((if_neg c_14).trans (rfl)))))
              have hP9 := hP.sub (ws' := [(h0, .inr (3, [.int 0, .ref ta, .int zs, .int po, .int fa, .ref da, .ref ra, .ref la, .long we, .long le, .int pk, .int pm, .int co, .ref pa, .int pl, .ref xa, .ref ya, .int mb, .ref ea, .ref wa])), (pa, .inl (cI, 4, .inl pf))]) [0, 1] rfl
              have hD9 := hD.sub (ws' := [(h0, .inr (3, [.int 0, .ref ta, .int zs, .int po, .int fa, .ref da, .ref ra, .ref la, .long we, .long le, .int pk, .int pm, .int co, .ref pa, .int pl, .ref xa, .ref ya, .int mb, .ref ea, .ref wa])), (pa, .inl (cI, 4, .inl pf))]) [0, 1] (by decide) rfl
              exact W.iret (v := ((pf (2 : Int32).toNatClampNeg) + ((k1 / co) * (pf (3 : Int32).toNatClampNeg)))) hx hb hr (fun t ht hW => ⟨_, _, rfl, ⟨by first | rfl | (simp only [e_0, e_1]; try rfl), by first | rfl | (simp only [e_0, e_1]; try rfl)⟩, by rw [ht]; exact hP9, hD9, hS.F ht⟩) hS.2.2 dR_at_102
            · refine lv_aload_n hx hb dR_at_59 rfl (lv_at hl 0 rfl) ?_
              refine va_get (D := (dC, dI)) (ci := 3) (v := .ref pa) (C := xR_R) (T := xF_R) (N := 20) hx hb hts xi_R hown hK hP 0 rfl rfl 13 (by decide) (hts _ xk_659) (fun _ h9 => h9) rfl dR_at_60 ?_
              refine lv_iconst (v := 0) hx hb dR_at_63 (by decide) ?_
              have o_17 : vp_in (0 : Int32) 4 := by unfold vp_in; decide
              refine va_iald hx hb hK hP 1 0 rfl rfl o_17 dR_at_64 ?_
              refine lv_iload_n hx hb dR_at_65 rfl (lv_at hl 1 rfl) ?_
              refine lv_aload_n hx hb dR_at_66 rfl (lv_at hl 0 rfl) ?_
              refine va_get (D := (dC, dI)) (ci := 3) (v := .int co) (C := xR_R) (T := xF_R) (N := 20) hx hb hts xi_R hown hK hP 0 rfl rfl 12 (by decide) (hts _ xk_658) (fun _ h9 => h9) rfl dR_at_67 ?_
              refine lv_irem hx hb dR_at_70 (hco (by assumption)) ?_
              refine lv_aload_n hx hb dR_at_71 rfl (lv_at hl 0 rfl) ?_
              refine va_get (D := (dC, dI)) (ci := 3) (v := .ref pa) (C := xR_R) (T := xF_R) (N := 20) hx hb hts xi_R hown hK hP 0 rfl rfl 13 (by decide) (hts _ xk_659) (fun _ h9 => h9) rfl dR_at_72 ?_
              refine lv_iconst (v := 1) hx hb dR_at_75 (by decide) ?_
              have o_18 : vp_in (1 : Int32) 4 := by unfold vp_in; decide
              refine va_iald hx hb hK hP 1 0 rfl rfl o_18 dR_at_76 ?_
              refine lv_imul hx hb dR_at_77 ?_
              refine lv_iadd hx hb dR_at_78 ?_
              refine lv_goto (tgt := 102) hx hb dR_at_79 (by decide) ?_
              have e_0 : gR_at pf pk pm co k1 axis = ((pf (0 : Int32).toNatClampNeg) + ((k1 - k1 / co * co) * (pf (1 : Int32).toNatClampNeg))) := (if_neg c_1).trans ((if_pos c_2).trans ((if_neg c_4).trans ((if_pos c_11).trans ((if_pos c_14).trans (rfl)))))
              have e_1 : gR_at_0 pf pk pm co k1 axis = (0 : Int32) := (if_neg c_1).trans ((if_pos c_2).trans ((if_neg c_4).trans ((if_pos c_11).trans ((if_pos c_14).trans (rfl)))))
              have hP9 := hP.sub (ws' := [(h0, .inr (3, [.int 0, .ref ta, .int zs, .int po, .int fa, .ref da, .ref ra, .ref la, .long we, .long le, .int pk, .int pm, .int co, .ref pa, .int pl, .ref xa, .ref ya, .int mb, .ref ea, .ref wa])), (pa, .inl (cI, 4, .inl pf))]) [0, 1] rfl
              have hD9 := hD.sub (ws' := [(h0, .inr (3, [.int 0, .ref ta, .int zs, .int po, .int fa, .ref da, .ref ra, .ref la, .long we, .long le, .int pk, .int pm, .int co, .ref pa, .int pl, .ref xa, .ref ya, .int mb, .ref ea, .ref wa])), (pa, .inl (cI, 4, .inl pf))]) [0, 1] (by decide) rfl
              exact W.iret (v := ((pf (0 : Int32).toNatClampNeg) + ((k1 - k1 / co * co) * (pf (1 : Int32).toNatClampNeg)))) hx hb hr (fun t ht hW => ⟨_, _, rfl, ⟨by first | rfl | (simp only [e_0, e_1]; try rfl), by first | rfl | (simp only [e_0, e_1]; try rfl)⟩, by rw [ht]; exact hP9, hD9, hS.F ht⟩) hS.2.2 dR_at_102
          · exact absurd c_13 (by decide)
  · refine lv_iconst (v := 1) hx hb dR_at_9 (by decide) ?_
    refine lv_goto (tgt := 43) hx hb dR_at_10 (by decide) ?_
    refine va_put (D := (dC, dI)) (ci := 3) (v := .int 1) (ty := .int) (C := xR_R) (T := xF_R) (N := 20) hx hb hts xi_R xt_R xt_R_ok xn_R hown hK hP hD hS 0 rfl rfl 0 (by decide) (hts _ xk_646) (fun _ h9 => h9) rfl (by decide +kernel) rfl rfl (Nat.le_of_ble_eq_true rfl) dR_at_43 (fun H locs hP hD hS => ?_)
    have hP : va_P (dC, dI) classes [(h0, .inr (3, [.int 1, .ref ta, .int zs, .int po, .int fa, .ref da, .ref ra, .ref la, .long we, .long le, .int pk, .int pm, .int co, .ref pa, .int pl, .ref xa, .ref ya, .int mb, .ref ea, .ref wa])), (pa, .inl (cI, 4, .inl pf))] H := hP
    have hD : va_D A [(h0, .inr (3, [.int 1, .ref ta, .int zs, .int po, .int fa, .ref da, .ref ra, .ref la, .long we, .long le, .int pk, .int pm, .int co, .ref pa, .int pl, .ref xa, .ref ya, .int mb, .ref ea, .ref wa])), (pa, .inl (cI, 4, .inl pf))] := hD
    refine lv_aload_n hx hb dR_at_46 rfl (lv_at hl 0 rfl) ?_
    refine va_get (D := (dC, dI)) (ci := 3) (v := .int 1) (C := xR_R) (T := xF_R) (N := 20) hx hb hts xi_R hown hK hP 0 rfl rfl 0 (by decide) (hts _ xk_646) (fun _ h9 => h9) rfl dR_at_47 ?_
    refine lv_if_le (tgt := 55) hx hb dR_at_50 (by decide) (fun c_19 => ?_) (fun c_19 => ?_)
    · exact absurd c_19 (by decide)
    · refine lv_iconst (v := 0) hx hb dR_at_53 (by decide) ?_
      have e_0 : gR_at pf pk pm co k1 axis = (0 : Int32) := (if_pos c_1).trans (rfl)
      have e_1 : gR_at_0 pf pk pm co k1 axis = (1 : Int32) := (if_pos c_1).trans (rfl)
      have hP9 := hP.sub (ws' := [(h0, .inr (3, [.int 1, .ref ta, .int zs, .int po, .int fa, .ref da, .ref ra, .ref la, .long we, .long le, .int pk, .int pm, .int co, .ref pa, .int pl, .ref xa, .ref ya, .int mb, .ref ea, .ref wa])), (pa, .inl (cI, 4, .inl pf))]) [0, 1] rfl
      have hD9 := hD.sub (ws' := [(h0, .inr (3, [.int 1, .ref ta, .int zs, .int po, .int fa, .ref da, .ref ra, .ref la, .long we, .long le, .int pk, .int pm, .int co, .ref pa, .int pl, .ref xa, .ref ya, .int mb, .ref ea, .ref wa])), (pa, .inl (cI, 4, .inl pf))]) [0, 1] (by decide) rfl
      exact W.iret (v := 0) hx hb hr (fun t ht hW => ⟨_, _, rfl, ⟨by first | rfl | (simp only [e_0, e_1]; try rfl), by first | rfl | (simp only [e_0, e_1]; try rfl)⟩, by rw [ht]; exact hP9, hD9, hS.F ht⟩) hS.2.2 dR_at_54

def gR_member (ef : Nat → Int32) (wf : Nat → Int32) (mb : Int32) (x0 : Int32) (y0 : Int32) (x1 : Int32) (y1 : Int32) (wd : Int32) : Int32 := if (fR_isPlace x0) = true then (if (fR_isPlace y0) = true then (if (fR_isPlace x1) = true then (if (fR_isPlace y1) = true then (if x0 = x1 then (if y0 = y1 then ((0)) else (if (fR_isIn wd.toInt64 (1) (10000)) = true then (if mb = 6 then ((0)) else ((mb + 1) - 1)) else ((0)))) else (if (fR_isIn wd.toInt64 (1) (10000)) = true then (if mb = 6 then ((0)) else ((mb + 1) - 1)) else ((0)))) else ((0))) else ((0))) else ((0))) else ((0))
def gR_member_0 (ef : Nat → Int32) (wf : Nat → Int32) (mb : Int32) (x0 : Int32) (y0 : Int32) (x1 : Int32) (y1 : Int32) (wd : Int32) : Int32 := if (fR_isPlace x0) = true then (if (fR_isPlace y0) = true then (if (fR_isPlace x1) = true then (if (fR_isPlace y1) = true then (if x0 = x1 then (if y0 = y1 then ((1)) else (if (fR_isIn wd.toInt64 (1) (10000)) = true then (if mb = 6 then ((2)) else ((0))) else ((1)))) else (if (fR_isIn wd.toInt64 (1) (10000)) = true then (if mb = 6 then ((2)) else ((0))) else ((1)))) else ((1))) else ((1))) else ((1))) else ((1))
def gR_member_17 (ef : Nat → Int32) (wf : Nat → Int32) (mb : Int32) (x0 : Int32) (y0 : Int32) (x1 : Int32) (y1 : Int32) (wd : Int32) : Int32 := if (fR_isPlace x0) = true then (if (fR_isPlace y0) = true then (if (fR_isPlace x1) = true then (if (fR_isPlace y1) = true then (if x0 = x1 then (if y0 = y1 then (mb) else (if (fR_isIn wd.toInt64 (1) (10000)) = true then (if mb = 6 then (mb) else (mb + 1)) else (mb))) else (if (fR_isIn wd.toInt64 (1) (10000)) = true then (if mb = 6 then (mb) else (mb + 1)) else (mb))) else (mb)) else (mb)) else (mb)) else (mb)
def gR_member_e (ef : Nat → Int32) (wf : Nat → Int32) (mb : Int32) (x0 : Int32) (y0 : Int32) (x1 : Int32) (y1 : Int32) (wd : Int32) : Nat → Int32 := if (fR_isPlace x0) = true then (if (fR_isPlace y0) = true then (if (fR_isPlace x1) = true then (if (fR_isPlace y1) = true then (if x0 = x1 then (if y0 = y1 then (ef) else (if (fR_isIn wd.toInt64 (1) (10000)) = true then (if mb = 6 then (ef) else (upd (upd (upd (upd ef (4 * mb).toNatClampNeg x0) ((4 * mb) + 1).toNatClampNeg y0) ((4 * mb) + 2).toNatClampNeg x1) ((4 * mb) + 3).toNatClampNeg y1)) else (ef))) else (if (fR_isIn wd.toInt64 (1) (10000)) = true then (if mb = 6 then (ef) else (upd (upd (upd (upd ef (4 * mb).toNatClampNeg x0) ((4 * mb) + 1).toNatClampNeg y0) ((4 * mb) + 2).toNatClampNeg x1) ((4 * mb) + 3).toNatClampNeg y1)) else (ef))) else (ef)) else (ef)) else (ef)) else (ef)
def gR_member_w (ef : Nat → Int32) (wf : Nat → Int32) (mb : Int32) (x0 : Int32) (y0 : Int32) (x1 : Int32) (y1 : Int32) (wd : Int32) : Nat → Int32 := if (fR_isPlace x0) = true then (if (fR_isPlace y0) = true then (if (fR_isPlace x1) = true then (if (fR_isPlace y1) = true then (if x0 = x1 then (if y0 = y1 then (wf) else (if (fR_isIn wd.toInt64 (1) (10000)) = true then (if mb = 6 then (wf) else (upd wf mb.toNatClampNeg wd)) else (wf))) else (if (fR_isIn wd.toInt64 (1) (10000)) = true then (if mb = 6 then (wf) else (upd wf mb.toNatClampNeg wd)) else (wf))) else (wf)) else (wf)) else (wf)) else (wf)
set_option maxHeartbeats 4000000 in
set_option maxRecDepth 100000 in
theorem cR_member (l : Launch) {s0 : State} {dC : Nat → ClassId} {dI : Nat → Nat → Nat} {cI cC cL cO : ClassId} (E : xb_Env l s0 dC dI (xtys cI cC cL cO)) (sz : Nat) (h0 : Nat) (ea : Nat) (wa : Nat) (th : Int32) (ta : Nat) (zs : Int32) (po : Int32) (fa : Int32) (da : Nat) (ra : Nat) (la : Nat) (we : Int64) (le : Int64) (pk : Int32) (pm : Int32) (co : Int32) (pa : Nat) (pl : Int32) (xa : Nat) (ya : Nat) (mb : Int32) (ef : Nat → Int32) (wf : Nat → Int32) (x0 : Int32) (y0 : Int32) (x1 : Int32) (y1 : Int32) (wd : Int32) (m0 : 0 ≤ mb) (m6 : mb ≤ 6) : Met l yR_member [.code yR_member bR_member 7 (some (.int))] ({ frames := 2, cells := 0, slots := 0, locals := 45 }) (va_Pc [.ref h0, .int x0, .int y0, .int x1, .int y1, .int wd] (fun U => xb_At s0 U ∧ U.heap.size = sz ∧ va_P (dC, dI) classes [(h0, .inr (3, [.int th, .ref ta, .int zs, .int po, .int fa, .ref da, .ref ra, .ref la, .long we, .long le, .int pk, .int pm, .int co, .ref pa, .int pl, .ref xa, .ref ya, .int mb, .ref ea, .ref wa])), (ea, .inl (cI, 24, .inl ef)), (wa, .inl (cI, 6, .inl wf))] U.heap ∧ va_D (fun q => s0.heap.size ≤ q) [(h0, .inr (3, [.int th, .ref ta, .int zs, .int po, .int fa, .ref da, .ref ra, .ref la, .long we, .long le, .int pk, .int pm, .int co, .ref pa, .int pl, .ref xa, .ref ya, .int mb, .ref ea, .ref wa])), (ea, .inl (cI, 24, .inl ef)), (wa, .inl (cI, 6, .inl wf))])) (xb_W (dC, dI) (fun v9 w9 => v9 = some (.int (gR_member ef wf mb x0 y0 x1 y1 wd)) ∧ w9 = [(h0, .inr (3, [.int (gR_member_0 ef wf mb x0 y0 x1 y1 wd), .ref ta, .int zs, .int po, .int fa, .ref da, .ref ra, .ref la, .long we, .long le, .int pk, .int pm, .int co, .ref pa, .int pl, .ref xa, .ref ya, .int (gR_member_17 ef wf mb x0 y0 x1 y1 wd), .ref ea, .ref wa])), (ea, .inl (cI, 24, .inl (gR_member_e ef wf mb x0 y0 x1 y1 wd))), (wa, .inl (cI, 6, .inl (gR_member_w ef wf mb x0 y0 x1 y1 wd)))]) (va_A [(h0, .inr (3, [.int th, .ref ta, .int zs, .int po, .int fa, .ref da, .ref ra, .ref la, .long we, .long le, .int pk, .int pm, .int co, .ref pa, .int pl, .ref xa, .ref ya, .int mb, .ref ea, .ref wa])), (ea, .inl (cI, 24, .inl ef)), (wa, .inl (cI, 6, .inl wf))] sz)) 0 0 (va_A [(h0, .inr (3, [.int th, .ref ta, .int zs, .int po, .int fa, .ref da, .ref ra, .ref la, .long we, .long le, .int pk, .int pm, .int co, .ref pa, .int pl, .ref xa, .ref ya, .int mb, .ref ea, .ref wa])), (ea, .inl (cI, 24, .inl ef)), (wa, .inl (cI, 6, .inl wf))] sz) := by
  refine Met.ofW (cc := bR_member) (maxL := 7) (ret := (some (.int))) (by decide) rfl ?_
  intro p e s m args below meth c s₁ B hml hv
  obtain ⟨rfl, hAt, hsz, hP, hD0⟩ := hv
  have hx := B.exec
  have hb := B.bytes
  have hr := B.returns
  have hts := xb_hts E hAt ([.ref h0, .int x0, .int y0, .int x1, .int y1, .int wd] : List Value).toArray
  have hown : s.vm.findClass "NailRulesModel" = some m.cls := findClass_of_methodNamed B.named
  have hlocks := B.notSynchronized
  have hK := xb_K E hAt
  subst hsz
  have hA0 := xb_A0 hAt hD0
  have hD := hD0.self (sz := s.heap.size)
  generalize hAe : va_A [(h0, .inr (3, [.int th, .ref ta, .int zs, .int po, .int fa, .ref da, .ref ra, .ref la, .long we, .long le, .int pk, .int pm, .int co, .ref pa, .int pl, .ref xa, .ref ya, .int mb, .ref ea, .ref wa])), (ea, .inl (cI, 24, .inl ef)), (wa, .inl (cI, 6, .inl wf))] s.heap.size = A at hD hA0 ⊢
  have hA : ∀ q : Nat, s.heap.size ≤ q → A q := fun q h => by rw [← hAe]; exact Or.inr h
  have hS : va_S A s.heap s.heap [] := va_S.rf
  have hl := lv_entry ([.ref h0, .int x0, .int y0, .int x1, .int y1, .int wd]) (n := 7) (Nat.le_of_ble_eq_true rfl)
  rw [lg_entry_eq]
  generalize (lg_sl ([.ref h0, .int x0, .int y0, .int x1, .int y1, .int wd]) ++ List.replicate (7 - (lg_sl ([.ref h0, .int x0, .int y0, .int x1, .int y1, .int wd])).length) Slot.unset).toArray = ls at hl ⊢
  have hl : lv_has ls 7 [(0, .ref h0), (1, .int x0), (2, .int y0), (3, .int x1), (4, .int y1), (5, .int wd)] := hl
  refine lv_iload_n hx hb dR_member_0 rfl (lv_at hl 1 rfl) ?_
  refine xb_rd (W.runS (As := [.int x0]) (rest := []) ⟨hx, hb, hml, hown, hts⟩ (cR_isPlace l E x0) (cwS 1 hts (xb_gi (List.forall_mem_cons.mpr ⟨xk_819, List.forall_mem_cons.mpr ⟨xk_820, List.forall_mem_cons.mpr ⟨xk_45, List.forall_mem_cons.mpr ⟨xk_821, fun _ h => absurd h List.not_mem_nil⟩⟩⟩⟩)) rfl rfl rfl (by decide +kernel) ⟨Nat.le_of_ble_eq_true rfl, Nat.le_of_ble_eq_true rfl⟩) ⟨fun _ _ _ _ q => q, fun U hU hW => ⟨rfl, xb_atS hAt hS hA0 hU hW, fun k q h => by simp at h⟩⟩ rfl rfl hl.1 rfl (lv_room (Nat.le_of_ble_eq_true rfl)) dR_member_1 ⟨Nat.zero_le _, Nat.zero_le _⟩) ?_
  refine lv_if_eq (tgt := 57) hx hb dR_member_4 (by decide) (fun c_1 => ?_) (fun c_1 => ?_)
  · have c_1 := xb_bi_f.mp c_1
    refine lv_iconst (v := 0) hx hb dR_member_57 (by decide) ?_
    refine lv_istore (lv' := [(6, .int 0), (0, .ref h0), (1, .int x0), (2, .int y0), (3, .int x1), (4, .int y1), (5, .int wd)]) hx hb dR_member_58 hl (by decide) rfl (fun ls hl => ?_)
    refine lv_aload_n hx hb dR_member_60 rfl (lv_at hl 1 rfl) ?_
    refine lv_iload hx hb dR_member_61 (lv_at hl 0 rfl) ?_
    refine lv_if_ne (tgt := 70) hx hb dR_member_63 (by decide) (fun c_2 => ?_) (fun c_2 => ?_)
    · exact absurd c_2 (by decide)
    · refine lv_iconst (v := 1) hx hb dR_member_66 (by decide) ?_
      refine lv_goto (tgt := 84) hx hb dR_member_67 (by decide) ?_
      refine va_put (D := (dC, dI)) (ci := 3) (v := .int 1) (ty := .int) (C := xR_R) (T := xF_R) (N := 20) hx hb hts xi_R xt_R xt_R_ok xn_R hown hK hP hD hS 0 rfl rfl 0 (by decide) (hts _ xk_646) (fun _ h9 => h9) rfl (by decide +kernel) rfl rfl (Nat.le_of_ble_eq_true rfl) dR_member_84 (fun H locs hP hD hS => ?_)
      have hP : va_P (dC, dI) classes [(h0, .inr (3, [.int 1, .ref ta, .int zs, .int po, .int fa, .ref da, .ref ra, .ref la, .long we, .long le, .int pk, .int pm, .int co, .ref pa, .int pl, .ref xa, .ref ya, .int mb, .ref ea, .ref wa])), (ea, .inl (cI, 24, .inl ef)), (wa, .inl (cI, 6, .inl wf))] H := hP
      have hD : va_D A [(h0, .inr (3, [.int 1, .ref ta, .int zs, .int po, .int fa, .ref da, .ref ra, .ref la, .long we, .long le, .int pk, .int pm, .int co, .ref pa, .int pl, .ref xa, .ref ya, .int mb, .ref ea, .ref wa])), (ea, .inl (cI, 24, .inl ef)), (wa, .inl (cI, 6, .inl wf))] := hD
      refine lv_aload_n hx hb dR_member_87 rfl (lv_at hl 1 rfl) ?_
      refine va_get (D := (dC, dI)) (ci := 3) (v := .int 1) (C := xR_R) (T := xF_R) (N := 20) hx hb hts xi_R hown hK hP 0 rfl rfl 0 (by decide) (hts _ xk_646) (fun _ h9 => h9) rfl dR_member_88 ?_
      refine lv_if_le (tgt := 96) hx hb dR_member_91 (by decide) (fun c_3 => ?_) (fun c_3 => ?_)
      · exact absurd c_3 (by decide)
      · refine lv_iconst (v := 0) hx hb dR_member_94 (by decide) ?_
        have e_0 : gR_member ef wf mb x0 y0 x1 y1 wd = (0 : Int32) := (if_neg c_1).trans (rfl)
        have e_1 : gR_member_0 ef wf mb x0 y0 x1 y1 wd = (1 : Int32) := (if_neg c_1).trans (rfl)
        have e_2 : gR_member_17 ef wf mb x0 y0 x1 y1 wd = mb := (if_neg c_1).trans (rfl)
        have e_3 : gR_member_e ef wf mb x0 y0 x1 y1 wd = ef := (if_neg c_1).trans (rfl)
        have e_4 : gR_member_w ef wf mb x0 y0 x1 y1 wd = wf := (if_neg c_1).trans (rfl)
        have hP9 := hP.sub (ws' := [(h0, .inr (3, [.int 1, .ref ta, .int zs, .int po, .int fa, .ref da, .ref ra, .ref la, .long we, .long le, .int pk, .int pm, .int co, .ref pa, .int pl, .ref xa, .ref ya, .int mb, .ref ea, .ref wa])), (ea, .inl (cI, 24, .inl ef)), (wa, .inl (cI, 6, .inl wf))]) [0, 1, 2] rfl
        have hD9 := hD.sub (ws' := [(h0, .inr (3, [.int 1, .ref ta, .int zs, .int po, .int fa, .ref da, .ref ra, .ref la, .long we, .long le, .int pk, .int pm, .int co, .ref pa, .int pl, .ref xa, .ref ya, .int mb, .ref ea, .ref wa])), (ea, .inl (cI, 24, .inl ef)), (wa, .inl (cI, 6, .inl wf))]) [0, 1, 2] (by decide) rfl
        exact W.iret (v := 0) hx hb hr (fun t ht hW => ⟨_, _, rfl, ⟨by first | rfl | (simp only [e_0, e_1, e_2, e_3, e_4]; try rfl), by first | rfl | (simp only [e_0, e_1, e_2, e_3, e_4]; try rfl)⟩, by rw [ht]; exact hP9, hD9, hS.F ht⟩) hS.2.2 dR_member_95
  · have c_1 := xb_bi_t.mp c_1
    refine lv_iload_n hx hb dR_member_7 rfl (lv_at hl 2 rfl) ?_
    refine xb_rd (W.runS (As := [.int y0]) (rest := []) ⟨hx, hb, hml, hown, hts⟩ (cR_isPlace l E y0) (cwS 1 hts (xb_gi (List.forall_mem_cons.mpr ⟨xk_819, List.forall_mem_cons.mpr ⟨xk_820, List.forall_mem_cons.mpr ⟨xk_45, List.forall_mem_cons.mpr ⟨xk_821, fun _ h => absurd h List.not_mem_nil⟩⟩⟩⟩)) rfl rfl rfl (by decide +kernel) ⟨Nat.le_of_ble_eq_true rfl, Nat.le_of_ble_eq_true rfl⟩) ⟨fun _ _ _ _ q => q, fun U hU hW => ⟨rfl, xb_atS hAt hS hA0 hU hW, fun k q h => by simp at h⟩⟩ rfl rfl hl.1 rfl (lv_room (Nat.le_of_ble_eq_true rfl)) dR_member_8 ⟨Nat.zero_le _, Nat.zero_le _⟩) ?_
    refine lv_if_eq (tgt := 57) hx hb dR_member_11 (by decide) (fun c_4 => ?_) (fun c_4 => ?_)
    · have c_4 := xb_bi_f.mp c_4
      refine lv_iconst (v := 0) hx hb dR_member_57 (by decide) ?_
      refine lv_istore (lv' := [(6, .int 0), (0, .ref h0), (1, .int x0), (2, .int y0), (3, .int x1), (4, .int y1), (5, .int wd)]) hx hb dR_member_58 hl (by decide) rfl (fun ls hl => ?_)
      refine lv_aload_n hx hb dR_member_60 rfl (lv_at hl 1 rfl) ?_
      refine lv_iload hx hb dR_member_61 (lv_at hl 0 rfl) ?_
      refine lv_if_ne (tgt := 70) hx hb dR_member_63 (by decide) (fun c_5 => ?_) (fun c_5 => ?_)
      · exact absurd c_5 (by decide)
      · refine lv_iconst (v := 1) hx hb dR_member_66 (by decide) ?_
        refine lv_goto (tgt := 84) hx hb dR_member_67 (by decide) ?_
        refine va_put (D := (dC, dI)) (ci := 3) (v := .int 1) (ty := .int) (C := xR_R) (T := xF_R) (N := 20) hx hb hts xi_R xt_R xt_R_ok xn_R hown hK hP hD hS 0 rfl rfl 0 (by decide) (hts _ xk_646) (fun _ h9 => h9) rfl (by decide +kernel) rfl rfl (Nat.le_of_ble_eq_true rfl) dR_member_84 (fun H locs hP hD hS => ?_)
        have hP : va_P (dC, dI) classes [(h0, .inr (3, [.int 1, .ref ta, .int zs, .int po, .int fa, .ref da, .ref ra, .ref la, .long we, .long le, .int pk, .int pm, .int co, .ref pa, .int pl, .ref xa, .ref ya, .int mb, .ref ea, .ref wa])), (ea, .inl (cI, 24, .inl ef)), (wa, .inl (cI, 6, .inl wf))] H := hP
        have hD : va_D A [(h0, .inr (3, [.int 1, .ref ta, .int zs, .int po, .int fa, .ref da, .ref ra, .ref la, .long we, .long le, .int pk, .int pm, .int co, .ref pa, .int pl, .ref xa, .ref ya, .int mb, .ref ea, .ref wa])), (ea, .inl (cI, 24, .inl ef)), (wa, .inl (cI, 6, .inl wf))] := hD
        refine lv_aload_n hx hb dR_member_87 rfl (lv_at hl 1 rfl) ?_
        refine va_get (D := (dC, dI)) (ci := 3) (v := .int 1) (C := xR_R) (T := xF_R) (N := 20) hx hb hts xi_R hown hK hP 0 rfl rfl 0 (by decide) (hts _ xk_646) (fun _ h9 => h9) rfl dR_member_88 ?_
        refine lv_if_le (tgt := 96) hx hb dR_member_91 (by decide) (fun c_6 => ?_) (fun c_6 => ?_)
        · exact absurd c_6 (by decide)
        · refine lv_iconst (v := 0) hx hb dR_member_94 (by decide) ?_
          have e_0 : gR_member ef wf mb x0 y0 x1 y1 wd = (0 : Int32) := (if_pos c_1).trans ((if_neg c_4).trans (rfl))
          have e_1 : gR_member_0 ef wf mb x0 y0 x1 y1 wd = (1 : Int32) := (if_pos c_1).trans ((if_neg c_4).trans (rfl))
          have e_2 : gR_member_17 ef wf mb x0 y0 x1 y1 wd = mb := (if_pos c_1).trans ((if_neg c_4).trans (rfl))
          have e_3 : gR_member_e ef wf mb x0 y0 x1 y1 wd = ef := (if_pos c_1).trans ((if_neg c_4).trans (rfl))
          have e_4 : gR_member_w ef wf mb x0 y0 x1 y1 wd = wf := (if_pos c_1).trans ((if_neg c_4).trans (rfl))
          have hP9 := hP.sub (ws' := [(h0, .inr (3, [.int 1, .ref ta, .int zs, .int po, .int fa, .ref da, .ref ra, .ref la, .long we, .long le, .int pk, .int pm, .int co, .ref pa, .int pl, .ref xa, .ref ya, .int mb, .ref ea, .ref wa])), (ea, .inl (cI, 24, .inl ef)), (wa, .inl (cI, 6, .inl wf))]) [0, 1, 2] rfl
          have hD9 := hD.sub (ws' := [(h0, .inr (3, [.int 1, .ref ta, .int zs, .int po, .int fa, .ref da, .ref ra, .ref la, .long we, .long le, .int pk, .int pm, .int co, .ref pa, .int pl, .ref xa, .ref ya, .int mb, .ref ea, .ref wa])), (ea, .inl (cI, 24, .inl ef)), (wa, .inl (cI, 6, .inl wf))]) [0, 1, 2] (by decide) rfl
          exact W.iret (v := 0) hx hb hr (fun t ht hW => ⟨_, _, rfl, ⟨by first | rfl | (simp only [e_0, e_1, e_2, e_3, e_4]; try rfl), by first | rfl | (simp only [e_0, e_1, e_2, e_3, e_4]; try rfl)⟩, by rw [ht]; exact hP9, hD9, hS.F ht⟩) hS.2.2 dR_member_95
    · have c_4 := xb_bi_t.mp c_4
      refine lv_iload_n hx hb dR_member_14 rfl (lv_at hl 3 rfl) ?_
      refine xb_rd (W.runS (As := [.int x1]) (rest := []) ⟨hx, hb, hml, hown, hts⟩ (cR_isPlace l E x1) (cwS 1 hts (xb_gi (List.forall_mem_cons.mpr ⟨xk_819, List.forall_mem_cons.mpr ⟨xk_820, List.forall_mem_cons.mpr ⟨xk_45, List.forall_mem_cons.mpr ⟨xk_821, fun _ h => absurd h List.not_mem_nil⟩⟩⟩⟩)) rfl rfl rfl (by decide +kernel) ⟨Nat.le_of_ble_eq_true rfl, Nat.le_of_ble_eq_true rfl⟩) ⟨fun _ _ _ _ q => q, fun U hU hW => ⟨rfl, xb_atS hAt hS hA0 hU hW, fun k q h => by simp at h⟩⟩ rfl rfl hl.1 rfl (lv_room (Nat.le_of_ble_eq_true rfl)) dR_member_15 ⟨Nat.zero_le _, Nat.zero_le _⟩) ?_
      refine lv_if_eq (tgt := 57) hx hb dR_member_18 (by decide) (fun c_7 => ?_) (fun c_7 => ?_)
      · have c_7 := xb_bi_f.mp c_7
        refine lv_iconst (v := 0) hx hb dR_member_57 (by decide) ?_
        refine lv_istore (lv' := [(6, .int 0), (0, .ref h0), (1, .int x0), (2, .int y0), (3, .int x1), (4, .int y1), (5, .int wd)]) hx hb dR_member_58 hl (by decide) rfl (fun ls hl => ?_)
        refine lv_aload_n hx hb dR_member_60 rfl (lv_at hl 1 rfl) ?_
        refine lv_iload hx hb dR_member_61 (lv_at hl 0 rfl) ?_
        refine lv_if_ne (tgt := 70) hx hb dR_member_63 (by decide) (fun c_8 => ?_) (fun c_8 => ?_)
        · exact absurd c_8 (by decide)
        · refine lv_iconst (v := 1) hx hb dR_member_66 (by decide) ?_
          refine lv_goto (tgt := 84) hx hb dR_member_67 (by decide) ?_
          refine va_put (D := (dC, dI)) (ci := 3) (v := .int 1) (ty := .int) (C := xR_R) (T := xF_R) (N := 20) hx hb hts xi_R xt_R xt_R_ok xn_R hown hK hP hD hS 0 rfl rfl 0 (by decide) (hts _ xk_646) (fun _ h9 => h9) rfl (by decide +kernel) rfl rfl (Nat.le_of_ble_eq_true rfl) dR_member_84 (fun H locs hP hD hS => ?_)
          have hP : va_P (dC, dI) classes [(h0, .inr (3, [.int 1, .ref ta, .int zs, .int po, .int fa, .ref da, .ref ra, .ref la, .long we, .long le, .int pk, .int pm, .int co, .ref pa, .int pl, .ref xa, .ref ya, .int mb, .ref ea, .ref wa])), (ea, .inl (cI, 24, .inl ef)), (wa, .inl (cI, 6, .inl wf))] H := hP
          have hD : va_D A [(h0, .inr (3, [.int 1, .ref ta, .int zs, .int po, .int fa, .ref da, .ref ra, .ref la, .long we, .long le, .int pk, .int pm, .int co, .ref pa, .int pl, .ref xa, .ref ya, .int mb, .ref ea, .ref wa])), (ea, .inl (cI, 24, .inl ef)), (wa, .inl (cI, 6, .inl wf))] := hD
          refine lv_aload_n hx hb dR_member_87 rfl (lv_at hl 1 rfl) ?_
          refine va_get (D := (dC, dI)) (ci := 3) (v := .int 1) (C := xR_R) (T := xF_R) (N := 20) hx hb hts xi_R hown hK hP 0 rfl rfl 0 (by decide) (hts _ xk_646) (fun _ h9 => h9) rfl dR_member_88 ?_
          refine lv_if_le (tgt := 96) hx hb dR_member_91 (by decide) (fun c_9 => ?_) (fun c_9 => ?_)
          · exact absurd c_9 (by decide)
          · refine lv_iconst (v := 0) hx hb dR_member_94 (by decide) ?_
            have e_0 : gR_member ef wf mb x0 y0 x1 y1 wd = (0 : Int32) := (if_pos c_1).trans ((if_pos c_4).trans ((if_neg c_7).trans (rfl)))
            have e_1 : gR_member_0 ef wf mb x0 y0 x1 y1 wd = (1 : Int32) := (if_pos c_1).trans ((if_pos c_4).trans ((if_neg c_7).trans (rfl)))
            have e_2 : gR_member_17 ef wf mb x0 y0 x1 y1 wd = mb := (if_pos c_1).trans ((if_pos c_4).trans ((if_neg c_7).trans (rfl)))
            have e_3 : gR_member_e ef wf mb x0 y0 x1 y1 wd = ef := (if_pos c_1).trans ((if_pos c_4).trans ((if_neg c_7).trans (rfl)))
            have e_4 : gR_member_w ef wf mb x0 y0 x1 y1 wd = wf := (if_pos c_1).trans ((if_pos c_4).trans ((if_neg c_7).trans (rfl)))
            have hP9 := hP.sub (ws' := [(h0, .inr (3, [.int 1, .ref ta, .int zs, .int po, .int fa, .ref da, .ref ra, .ref la, .long we, .long le, .int pk, .int pm, .int co, .ref pa, .int pl, .ref xa, .ref ya, .int mb, .ref ea, .ref wa])), (ea, .inl (cI, 24, .inl ef)), (wa, .inl (cI, 6, .inl wf))]) [0, 1, 2] rfl
            have hD9 := hD.sub (ws' := [(h0, .inr (3, [.int 1, .ref ta, .int zs, .int po, .int fa, .ref da, .ref ra, .ref la, .long we, .long le, .int pk, .int pm, .int co, .ref pa, .int pl, .ref xa, .ref ya, .int mb, .ref ea, .ref wa])), (ea, .inl (cI, 24, .inl ef)), (wa, .inl (cI, 6, .inl wf))]) [0, 1, 2] (by decide) rfl
            exact W.iret (v := 0) hx hb hr (fun t ht hW => ⟨_, _, rfl, ⟨by first | rfl | (simp only [e_0, e_1, e_2, e_3, e_4]; try rfl), by first | rfl | (simp only [e_0, e_1, e_2, e_3, e_4]; try rfl)⟩, by rw [ht]; exact hP9, hD9, hS.F ht⟩) hS.2.2 dR_member_95
      · have c_7 := xb_bi_t.mp c_7
        refine lv_iload hx hb dR_member_21 (lv_at hl 4 rfl) ?_
        refine xb_rd (W.runS (As := [.int y1]) (rest := []) ⟨hx, hb, hml, hown, hts⟩ (cR_isPlace l E y1) (cwS 1 hts (xb_gi (List.forall_mem_cons.mpr ⟨xk_819, List.forall_mem_cons.mpr ⟨xk_820, List.forall_mem_cons.mpr ⟨xk_45, List.forall_mem_cons.mpr ⟨xk_821, fun _ h => absurd h List.not_mem_nil⟩⟩⟩⟩)) rfl rfl rfl (by decide +kernel) ⟨Nat.le_of_ble_eq_true rfl, Nat.le_of_ble_eq_true rfl⟩) ⟨fun _ _ _ _ q => q, fun U hU hW => ⟨rfl, xb_atS hAt hS hA0 hU hW, fun k q h => by simp at h⟩⟩ rfl rfl hl.1 rfl (lv_room (Nat.le_of_ble_eq_true rfl)) dR_member_23 ⟨Nat.zero_le _, Nat.zero_le _⟩) ?_
        refine lv_if_eq (tgt := 57) hx hb dR_member_26 (by decide) (fun c_10 => ?_) (fun c_10 => ?_)
        · have c_10 := xb_bi_f.mp c_10
          refine lv_iconst (v := 0) hx hb dR_member_57 (by decide) ?_
          refine lv_istore (lv' := [(6, .int 0), (0, .ref h0), (1, .int x0), (2, .int y0), (3, .int x1), (4, .int y1), (5, .int wd)]) hx hb dR_member_58 hl (by decide) rfl (fun ls hl => ?_)
          refine lv_aload_n hx hb dR_member_60 rfl (lv_at hl 1 rfl) ?_
          refine lv_iload hx hb dR_member_61 (lv_at hl 0 rfl) ?_
          refine lv_if_ne (tgt := 70) hx hb dR_member_63 (by decide) (fun c_11 => ?_) (fun c_11 => ?_)
          · exact absurd c_11 (by decide)
          · refine lv_iconst (v := 1) hx hb dR_member_66 (by decide) ?_
            refine lv_goto (tgt := 84) hx hb dR_member_67 (by decide) ?_
            refine va_put (D := (dC, dI)) (ci := 3) (v := .int 1) (ty := .int) (C := xR_R) (T := xF_R) (N := 20) hx hb hts xi_R xt_R xt_R_ok xn_R hown hK hP hD hS 0 rfl rfl 0 (by decide) (hts _ xk_646) (fun _ h9 => h9) rfl (by decide +kernel) rfl rfl (Nat.le_of_ble_eq_true rfl) dR_member_84 (fun H locs hP hD hS => ?_)
            have hP : va_P (dC, dI) classes [(h0, .inr (3, [.int 1, .ref ta, .int zs, .int po, .int fa, .ref da, .ref ra, .ref la, .long we, .long le, .int pk, .int pm, .int co, .ref pa, .int pl, .ref xa, .ref ya, .int mb, .ref ea, .ref wa])), (ea, .inl (cI, 24, .inl ef)), (wa, .inl (cI, 6, .inl wf))] H := hP
            have hD : va_D A [(h0, .inr (3, [.int 1, .ref ta, .int zs, .int po, .int fa, .ref da, .ref ra, .ref la, .long we, .long le, .int pk, .int pm, .int co, .ref pa, .int pl, .ref xa, .ref ya, .int mb, .ref ea, .ref wa])), (ea, .inl (cI, 24, .inl ef)), (wa, .inl (cI, 6, .inl wf))] := hD
            refine lv_aload_n hx hb dR_member_87 rfl (lv_at hl 1 rfl) ?_
            refine va_get (D := (dC, dI)) (ci := 3) (v := .int 1) (C := xR_R) (T := xF_R) (N := 20) hx hb hts xi_R hown hK hP 0 rfl rfl 0 (by decide) (hts _ xk_646) (fun _ h9 => h9) rfl dR_member_88 ?_
            refine lv_if_le (tgt := 96) hx hb dR_member_91 (by decide) (fun c_12 => ?_) (fun c_12 => ?_)
            · exact absurd c_12 (by decide)
            · refine lv_iconst (v := 0) hx hb dR_member_94 (by decide) ?_
              have e_0 : gR_member ef wf mb x0 y0 x1 y1 wd = (0 : Int32) := (if_pos c_1).trans ((if_pos c_4).trans ((if_pos c_7).trans ((if_neg c_10).trans (rfl))))
              have e_1 : gR_member_0 ef wf mb x0 y0 x1 y1 wd = (1 : Int32) := (if_pos c_1).trans ((if_pos c_4).trans ((if_pos c_7).trans ((if_neg c_10).trans (rfl))))
              have e_2 : gR_member_17 ef wf mb x0 y0 x1 y1 wd = mb := (if_pos c_1).trans ((if_pos c_4).trans ((if_pos c_7).trans ((if_neg c_10).trans (rfl))))
              have e_3 : gR_member_e ef wf mb x0 y0 x1 y1 wd = ef := (if_pos c_1).trans ((if_pos c_4).trans ((if_pos c_7).trans ((if_neg c_10).trans (rfl))))
              have e_4 : gR_member_w ef wf mb x0 y0 x1 y1 wd = wf := (if_pos c_1).trans ((if_pos c_4).trans ((if_pos c_7).trans ((if_neg c_10).trans (rfl))))
              have hP9 := hP.sub (ws' := [(h0, .inr (3, [.int 1, .ref ta, .int zs, .int po, .int fa, .ref da, .ref ra, .ref la, .long we, .long le, .int pk, .int pm, .int co, .ref pa, .int pl, .ref xa, .ref ya, .int mb, .ref ea, .ref wa])), (ea, .inl (cI, 24, .inl ef)), (wa, .inl (cI, 6, .inl wf))]) [0, 1, 2] rfl
              have hD9 := hD.sub (ws' := [(h0, .inr (3, [.int 1, .ref ta, .int zs, .int po, .int fa, .ref da, .ref ra, .ref la, .long we, .long le, .int pk, .int pm, .int co, .ref pa, .int pl, .ref xa, .ref ya, .int mb, .ref ea, .ref wa])), (ea, .inl (cI, 24, .inl ef)), (wa, .inl (cI, 6, .inl wf))]) [0, 1, 2] (by decide) rfl
              exact W.iret (v := 0) hx hb hr (fun t ht hW => ⟨_, _, rfl, ⟨by first | rfl | (simp only [e_0, e_1, e_2, e_3, e_4]; try rfl), by first | rfl | (simp only [e_0, e_1, e_2, e_3, e_4]; try rfl)⟩, by rw [ht]; exact hP9, hD9, hS.F ht⟩) hS.2.2 dR_member_95
        · have c_10 := xb_bi_t.mp c_10
          refine lv_iload_n hx hb dR_member_29 rfl (lv_at hl 1 rfl) ?_
          refine lv_iload_n hx hb dR_member_30 rfl (lv_at hl 3 rfl) ?_
          refine lv_icmp_ne (tgt := 40) hx hb dR_member_31 (by decide) (fun c_13 => ?_) (fun c_13 => ?_)
          · refine lv_iload hx hb dR_member_40 (lv_at hl 5 rfl) ?_
            refine lv_i2l hx hb dR_member_42 rfl ?_
            refine lv_lconst (v := 1) hx hb dR_member_43 (by decide) ?_
            refine lv_ldc2 (v := 10000) hx hb hown (hts _ xk_823) dR_member_44 ?_
            refine xb_rd (W.runS (As := [.long wd.toInt64, .long 1, .long 10000]) (rest := []) ⟨hx, hb, hml, hown, hts⟩ (cR_isIn l E wd.toInt64 1 10000) (cwS 3 hts (xb_gi (List.forall_mem_cons.mpr ⟨xk_754, List.forall_mem_cons.mpr ⟨xk_755, List.forall_mem_cons.mpr ⟨xk_45, List.forall_mem_cons.mpr ⟨xk_756, fun _ h => absurd h List.not_mem_nil⟩⟩⟩⟩)) rfl rfl rfl (by decide +kernel) ⟨Nat.le_of_ble_eq_true rfl, Nat.le_of_ble_eq_true rfl⟩) ⟨fun _ _ _ _ q => q, fun U hU hW => ⟨rfl, xb_atS hAt hS hA0 hU hW, fun k q h => by simp at h⟩⟩ rfl rfl hl.1 rfl (lv_room (Nat.le_of_ble_eq_true rfl)) dR_member_47 ⟨Nat.zero_le _, Nat.zero_le _⟩) ?_
            refine lv_if_eq (tgt := 57) hx hb dR_member_50 (by decide) (fun c_14 => ?_) (fun c_14 => ?_)
            · have c_14 := xb_bi_f.mp c_14
              refine lv_iconst (v := 0) hx hb dR_member_57 (by decide) ?_
              refine lv_istore (lv' := [(6, .int 0), (0, .ref h0), (1, .int x0), (2, .int y0), (3, .int x1), (4, .int y1), (5, .int wd)]) hx hb dR_member_58 hl (by decide) rfl (fun ls hl => ?_)
              refine lv_aload_n hx hb dR_member_60 rfl (lv_at hl 1 rfl) ?_
              refine lv_iload hx hb dR_member_61 (lv_at hl 0 rfl) ?_
              refine lv_if_ne (tgt := 70) hx hb dR_member_63 (by decide) (fun c_15 => ?_) (fun c_15 => ?_)
              · exact absurd c_15 (by decide)
              · refine lv_iconst (v := 1) hx hb dR_member_66 (by decide) ?_
                refine lv_goto (tgt := 84) hx hb dR_member_67 (by decide) ?_
                refine va_put (D := (dC, dI)) (ci := 3) (v := .int 1) (ty := .int) (C := xR_R) (T := xF_R) (N := 20) hx hb hts xi_R xt_R xt_R_ok xn_R hown hK hP hD hS 0 rfl rfl 0 (by decide) (hts _ xk_646) (fun _ h9 => h9) rfl (by decide +kernel) rfl rfl (Nat.le_of_ble_eq_true rfl) dR_member_84 (fun H locs hP hD hS => ?_)
                have hP : va_P (dC, dI) classes [(h0, .inr (3, [.int 1, .ref ta, .int zs, .int po, .int fa, .ref da, .ref ra, .ref la, .long we, .long le, .int pk, .int pm, .int co, .ref pa, .int pl, .ref xa, .ref ya, .int mb, .ref ea, .ref wa])), (ea, .inl (cI, 24, .inl ef)), (wa, .inl (cI, 6, .inl wf))] H := hP
                have hD : va_D A [(h0, .inr (3, [.int 1, .ref ta, .int zs, .int po, .int fa, .ref da, .ref ra, .ref la, .long we, .long le, .int pk, .int pm, .int co, .ref pa, .int pl, .ref xa, .ref ya, .int mb, .ref ea, .ref wa])), (ea, .inl (cI, 24, .inl ef)), (wa, .inl (cI, 6, .inl wf))] := hD
                refine lv_aload_n hx hb dR_member_87 rfl (lv_at hl 1 rfl) ?_
                refine va_get (D := (dC, dI)) (ci := 3) (v := .int 1) (C := xR_R) (T := xF_R) (N := 20) hx hb hts xi_R hown hK hP 0 rfl rfl 0 (by decide) (hts _ xk_646) (fun _ h9 => h9) rfl dR_member_88 ?_
                refine lv_if_le (tgt := 96) hx hb dR_member_91 (by decide) (fun c_16 => ?_) (fun c_16 => ?_)
                · exact absurd c_16 (by decide)
                · refine lv_iconst (v := 0) hx hb dR_member_94 (by decide) ?_
                  have e_0 : gR_member ef wf mb x0 y0 x1 y1 wd = (0 : Int32) := (if_pos c_1).trans ((if_pos c_4).trans ((if_pos c_7).trans ((if_pos c_10).trans ((if_neg c_13).trans ((if_neg c_14).trans (rfl))))))
                  have e_1 : gR_member_0 ef wf mb x0 y0 x1 y1 wd = (1 : Int32) := (if_pos c_1).trans ((if_pos c_4).trans ((if_pos c_7).trans ((if_pos c_10).trans ((if_neg c_13).trans ((if_neg c_14).trans (rfl))))))
                  have e_2 : gR_member_17 ef wf mb x0 y0 x1 y1 wd = mb := (if_pos c_1).trans ((if_pos c_4).trans ((if_pos c_7).trans ((if_pos c_10).trans ((if_neg c_13).trans ((if_neg c_14).trans (rfl))))))
                  have e_3 : gR_member_e ef wf mb x0 y0 x1 y1 wd = ef := (if_pos c_1).trans ((if_pos c_4).trans ((if_pos c_7).trans ((if_pos c_10).trans ((if_neg c_13).trans ((if_neg c_14).trans (rfl))))))
                  have e_4 : gR_member_w ef wf mb x0 y0 x1 y1 wd = wf := (if_pos c_1).trans ((if_pos c_4).trans ((if_pos c_7).trans ((if_pos c_10).trans ((if_neg c_13).trans ((if_neg c_14).trans (rfl))))))
                  have hP9 := hP.sub (ws' := [(h0, .inr (3, [.int 1, .ref ta, .int zs, .int po, .int fa, .ref da, .ref ra, .ref la, .long we, .long le, .int pk, .int pm, .int co, .ref pa, .int pl, .ref xa, .ref ya, .int mb, .ref ea, .ref wa])), (ea, .inl (cI, 24, .inl ef)), (wa, .inl (cI, 6, .inl wf))]) [0, 1, 2] rfl
                  have hD9 := hD.sub (ws' := [(h0, .inr (3, [.int 1, .ref ta, .int zs, .int po, .int fa, .ref da, .ref ra, .ref la, .long we, .long le, .int pk, .int pm, .int co, .ref pa, .int pl, .ref xa, .ref ya, .int mb, .ref ea, .ref wa])), (ea, .inl (cI, 24, .inl ef)), (wa, .inl (cI, 6, .inl wf))]) [0, 1, 2] (by decide) rfl
                  exact W.iret (v := 0) hx hb hr (fun t ht hW => ⟨_, _, rfl, ⟨by first | rfl | (simp only [e_0, e_1, e_2, e_3, e_4]; try rfl), by first | rfl | (simp only [e_0, e_1, e_2, e_3, e_4]; try rfl)⟩, by rw [ht]; exact hP9, hD9, hS.F ht⟩) hS.2.2 dR_member_95
            · have c_14 := xb_bi_t.mp c_14
              refine lv_iconst (v := 1) hx hb dR_member_53 (by decide) ?_
              refine lv_goto (tgt := 58) hx hb dR_member_54 (by decide) ?_
              refine lv_istore (lv' := [(6, .int 1), (0, .ref h0), (1, .int x0), (2, .int y0), (3, .int x1), (4, .int y1), (5, .int wd)]) hx hb dR_member_58 hl (by decide) rfl (fun ls hl => ?_)
              refine lv_aload_n hx hb dR_member_60 rfl (lv_at hl 1 rfl) ?_
              refine lv_iload hx hb dR_member_61 (lv_at hl 0 rfl) ?_
              refine lv_if_ne (tgt := 70) hx hb dR_member_63 (by decide) (fun c_17 => ?_) (fun c_17 => ?_)
              · refine lv_aload_n hx hb dR_member_70 rfl (lv_at hl 1 rfl) ?_
                refine va_get (D := (dC, dI)) (ci := 3) (v := .int mb) (C := xR_R) (T := xF_R) (N := 20) hx hb hts xi_R hown hK hP 0 rfl rfl 17 (by decide) (hts _ xk_663) (fun _ h9 => h9) rfl dR_member_71 ?_
                refine lv_bipush (v := 6) hx hb dR_member_74 (by decide) ?_
                refine lv_icmp_ne (tgt := 83) hx hb dR_member_76 (by decide) (fun c_18 => ?_) (fun c_18 => ?_)
                · refine lv_iconst (v := 0) hx hb dR_member_83 (by decide) ?_
                  refine va_put (D := (dC, dI)) (ci := 3) (v := .int 0) (ty := .int) (C := xR_R) (T := xF_R) (N := 20) hx hb hts xi_R xt_R xt_R_ok xn_R hown hK hP hD hS 0 rfl rfl 0 (by decide) (hts _ xk_646) (fun _ h9 => h9) rfl (by decide +kernel) rfl rfl (Nat.le_of_ble_eq_true rfl) dR_member_84 (fun H locs hP hD hS => ?_)
                  have hP : va_P (dC, dI) classes [(h0, .inr (3, [.int 0, .ref ta, .int zs, .int po, .int fa, .ref da, .ref ra, .ref la, .long we, .long le, .int pk, .int pm, .int co, .ref pa, .int pl, .ref xa, .ref ya, .int mb, .ref ea, .ref wa])), (ea, .inl (cI, 24, .inl ef)), (wa, .inl (cI, 6, .inl wf))] H := hP
                  have hD : va_D A [(h0, .inr (3, [.int 0, .ref ta, .int zs, .int po, .int fa, .ref da, .ref ra, .ref la, .long we, .long le, .int pk, .int pm, .int co, .ref pa, .int pl, .ref xa, .ref ya, .int mb, .ref ea, .ref wa])), (ea, .inl (cI, 24, .inl ef)), (wa, .inl (cI, 6, .inl wf))] := hD
                  refine lv_aload_n hx hb dR_member_87 rfl (lv_at hl 1 rfl) ?_
                  refine va_get (D := (dC, dI)) (ci := 3) (v := .int 0) (C := xR_R) (T := xF_R) (N := 20) hx hb hts xi_R hown hK hP 0 rfl rfl 0 (by decide) (hts _ xk_646) (fun _ h9 => h9) rfl dR_member_88 ?_
                  refine lv_if_le (tgt := 96) hx hb dR_member_91 (by decide) (fun c_19 => ?_) (fun c_19 => ?_)
                  · refine lv_aload_n hx hb dR_member_96 rfl (lv_at hl 1 rfl) ?_
                    refine va_get (D := (dC, dI)) (ci := 3) (v := .ref ea) (C := xR_R) (T := xF_R) (N := 20) hx hb hts xi_R hown hK hP 0 rfl rfl 18 (by decide) (hts _ xk_664) (fun _ h9 => h9) rfl dR_member_97 ?_
                    refine lv_iconst (v := 4) hx hb dR_member_100 (by decide) ?_
                    refine lv_aload_n hx hb dR_member_101 rfl (lv_at hl 1 rfl) ?_
                    refine va_get (D := (dC, dI)) (ci := 3) (v := .int mb) (C := xR_R) (T := xF_R) (N := 20) hx hb hts xi_R hown hK hP 0 rfl rfl 17 (by decide) (hts _ xk_663) (fun _ h9 => h9) rfl dR_member_102 ?_
                    refine lv_imul hx hb dR_member_105 ?_
                    refine lv_iload_n hx hb dR_member_106 rfl (lv_at hl 2 rfl) ?_
                    have o_20 : vp_in (4 * mb) 24 := by exact (xp_mb (by assumption) m0 m6).1
                    refine va_iast hx hb hK hP hD hS 1 0 rfl rfl o_20 dR_member_107 (fun H locs hP hD hS => ?_)
                    have hP : va_P (dC, dI) classes [(h0, .inr (3, [.int 0, .ref ta, .int zs, .int po, .int fa, .ref da, .ref ra, .ref la, .long we, .long le, .int pk, .int pm, .int co, .ref pa, .int pl, .ref xa, .ref ya, .int mb, .ref ea, .ref wa])), (ea, .inl (cI, 24, .inl (upd ef (4 * mb).toNatClampNeg x0))), (wa, .inl (cI, 6, .inl wf))] H := hP
                    have hD : va_D A [(h0, .inr (3, [.int 0, .ref ta, .int zs, .int po, .int fa, .ref da, .ref ra, .ref la, .long we, .long le, .int pk, .int pm, .int co, .ref pa, .int pl, .ref xa, .ref ya, .int mb, .ref ea, .ref wa])), (ea, .inl (cI, 24, .inl (upd ef (4 * mb).toNatClampNeg x0))), (wa, .inl (cI, 6, .inl wf))] := hD
                    refine lv_aload_n hx hb dR_member_108 rfl (lv_at hl 1 rfl) ?_
                    refine va_get (D := (dC, dI)) (ci := 3) (v := .ref ea) (C := xR_R) (T := xF_R) (N := 20) hx hb hts xi_R hown hK hP 0 rfl rfl 18 (by decide) (hts _ xk_664) (fun _ h9 => h9) rfl dR_member_109 ?_
                    refine lv_iconst (v := 4) hx hb dR_member_112 (by decide) ?_
                    refine lv_aload_n hx hb dR_member_113 rfl (lv_at hl 1 rfl) ?_
                    refine va_get (D := (dC, dI)) (ci := 3) (v := .int mb) (C := xR_R) (T := xF_R) (N := 20) hx hb hts xi_R hown hK hP 0 rfl rfl 17 (by decide) (hts _ xk_663) (fun _ h9 => h9) rfl dR_member_114 ?_
                    refine lv_imul hx hb dR_member_117 ?_
                    refine lv_iconst (v := 1) hx hb dR_member_118 (by decide) ?_
                    refine lv_iadd hx hb dR_member_119 ?_
                    refine lv_iload_n hx hb dR_member_120 rfl (lv_at hl 3 rfl) ?_
                    have o_21 : vp_in ((4 * mb) + 1) 24 := by exact (xp_mb (by assumption) m0 m6).2.1
                    refine va_iast hx hb hK hP hD hS 1 0 rfl rfl o_21 dR_member_121 (fun H locs hP hD hS => ?_)
                    have hP : va_P (dC, dI) classes [(h0, .inr (3, [.int 0, .ref ta, .int zs, .int po, .int fa, .ref da, .ref ra, .ref la, .long we, .long le, .int pk, .int pm, .int co, .ref pa, .int pl, .ref xa, .ref ya, .int mb, .ref ea, .ref wa])), (ea, .inl (cI, 24, .inl (upd (upd ef (4 * mb).toNatClampNeg x0) ((4 * mb) + 1).toNatClampNeg y0))), (wa, .inl (cI, 6, .inl wf))] H := hP
                    have hD : va_D A [(h0, .inr (3, [.int 0, .ref ta, .int zs, .int po, .int fa, .ref da, .ref ra, .ref la, .long we, .long le, .int pk, .int pm, .int co, .ref pa, .int pl, .ref xa, .ref ya, .int mb, .ref ea, .ref wa])), (ea, .inl (cI, 24, .inl (upd (upd ef (4 * mb).toNatClampNeg x0) ((4 * mb) + 1).toNatClampNeg y0))), (wa, .inl (cI, 6, .inl wf))] := hD
                    refine lv_aload_n hx hb dR_member_122 rfl (lv_at hl 1 rfl) ?_
                    refine va_get (D := (dC, dI)) (ci := 3) (v := .ref ea) (C := xR_R) (T := xF_R) (N := 20) hx hb hts xi_R hown hK hP 0 rfl rfl 18 (by decide) (hts _ xk_664) (fun _ h9 => h9) rfl dR_member_123 ?_
                    refine lv_iconst (v := 4) hx hb dR_member_126 (by decide) ?_
                    refine lv_aload_n hx hb dR_member_127 rfl (lv_at hl 1 rfl) ?_
                    refine va_get (D := (dC, dI)) (ci := 3) (v := .int mb) (C := xR_R) (T := xF_R) (N := 20) hx hb hts xi_R hown hK hP 0 rfl rfl 17 (by decide) (hts _ xk_663) (fun _ h9 => h9) rfl dR_member_128 ?_
                    refine lv_imul hx hb dR_member_131 ?_
                    refine lv_iconst (v := 2) hx hb dR_member_132 (by decide) ?_
                    refine lv_iadd hx hb dR_member_133 ?_
                    refine lv_iload_n hx hb dR_member_134 rfl (lv_at hl 4 rfl) ?_
                    have o_22 : vp_in ((4 * mb) + 2) 24 := by exact (xp_mb (by assumption) m0 m6).2.2.1
                    refine va_iast hx hb hK hP hD hS 1 0 rfl rfl o_22 dR_member_135 (fun H locs hP hD hS => ?_)
                    have hP : va_P (dC, dI) classes [(h0, .inr (3, [.int 0, .ref ta, .int zs, .int po, .int fa, .ref da, .ref ra, .ref la, .long we, .long le, .int pk, .int pm, .int co, .ref pa, .int pl, .ref xa, .ref ya, .int mb, .ref ea, .ref wa])), (ea, .inl (cI, 24, .inl (upd (upd (upd ef (4 * mb).toNatClampNeg x0) ((4 * mb) + 1).toNatClampNeg y0) ((4 * mb) + 2).toNatClampNeg x1))), (wa, .inl (cI, 6, .inl wf))] H := hP
                    have hD : va_D A [(h0, .inr (3, [.int 0, .ref ta, .int zs, .int po, .int fa, .ref da, .ref ra, .ref la, .long we, .long le, .int pk, .int pm, .int co, .ref pa, .int pl, .ref xa, .ref ya, .int mb, .ref ea, .ref wa])), (ea, .inl (cI, 24, .inl (upd (upd (upd ef (4 * mb).toNatClampNeg x0) ((4 * mb) + 1).toNatClampNeg y0) ((4 * mb) + 2).toNatClampNeg x1))), (wa, .inl (cI, 6, .inl wf))] := hD
                    refine lv_aload_n hx hb dR_member_136 rfl (lv_at hl 1 rfl) ?_
                    refine va_get (D := (dC, dI)) (ci := 3) (v := .ref ea) (C := xR_R) (T := xF_R) (N := 20) hx hb hts xi_R hown hK hP 0 rfl rfl 18 (by decide) (hts _ xk_664) (fun _ h9 => h9) rfl dR_member_137 ?_
                    refine lv_iconst (v := 4) hx hb dR_member_140 (by decide) ?_
                    refine lv_aload_n hx hb dR_member_141 rfl (lv_at hl 1 rfl) ?_
                    refine va_get (D := (dC, dI)) (ci := 3) (v := .int mb) (C := xR_R) (T := xF_R) (N := 20) hx hb hts xi_R hown hK hP 0 rfl rfl 17 (by decide) (hts _ xk_663) (fun _ h9 => h9) rfl dR_member_142 ?_
                    refine lv_imul hx hb dR_member_145 ?_
                    refine lv_iconst (v := 3) hx hb dR_member_146 (by decide) ?_
                    refine lv_iadd hx hb dR_member_147 ?_
                    refine lv_iload hx hb dR_member_148 (lv_at hl 5 rfl) ?_
                    have o_23 : vp_in ((4 * mb) + 3) 24 := by exact (xp_mb (by assumption) m0 m6).2.2.2.1
                    refine va_iast hx hb hK hP hD hS 1 0 rfl rfl o_23 dR_member_150 (fun H locs hP hD hS => ?_)
                    have hP : va_P (dC, dI) classes [(h0, .inr (3, [.int 0, .ref ta, .int zs, .int po, .int fa, .ref da, .ref ra, .ref la, .long we, .long le, .int pk, .int pm, .int co, .ref pa, .int pl, .ref xa, .ref ya, .int mb, .ref ea, .ref wa])), (ea, .inl (cI, 24, .inl (upd (upd (upd (upd ef (4 * mb).toNatClampNeg x0) ((4 * mb) + 1).toNatClampNeg y0) ((4 * mb) + 2).toNatClampNeg x1) ((4 * mb) + 3).toNatClampNeg y1))), (wa, .inl (cI, 6, .inl wf))] H := hP
                    have hD : va_D A [(h0, .inr (3, [.int 0, .ref ta, .int zs, .int po, .int fa, .ref da, .ref ra, .ref la, .long we, .long le, .int pk, .int pm, .int co, .ref pa, .int pl, .ref xa, .ref ya, .int mb, .ref ea, .ref wa])), (ea, .inl (cI, 24, .inl (upd (upd (upd (upd ef (4 * mb).toNatClampNeg x0) ((4 * mb) + 1).toNatClampNeg y0) ((4 * mb) + 2).toNatClampNeg x1) ((4 * mb) + 3).toNatClampNeg y1))), (wa, .inl (cI, 6, .inl wf))] := hD
                    refine lv_aload_n hx hb dR_member_151 rfl (lv_at hl 1 rfl) ?_
                    refine va_get (D := (dC, dI)) (ci := 3) (v := .ref wa) (C := xR_R) (T := xF_R) (N := 20) hx hb hts xi_R hown hK hP 0 rfl rfl 19 (by decide) (hts _ xk_665) (fun _ h9 => h9) rfl dR_member_152 ?_
                    refine lv_aload_n hx hb dR_member_155 rfl (lv_at hl 1 rfl) ?_
                    refine va_get (D := (dC, dI)) (ci := 3) (v := .int mb) (C := xR_R) (T := xF_R) (N := 20) hx hb hts xi_R hown hK hP 0 rfl rfl 17 (by decide) (hts _ xk_663) (fun _ h9 => h9) rfl dR_member_156 ?_
                    refine lv_iload hx hb dR_member_159 (lv_at hl 6 rfl) ?_
                    have o_24 : vp_in mb 6 := by exact (xp_mb (by assumption) m0 m6).2.2.2.2
                    refine va_iast hx hb hK hP hD hS 2 0 rfl rfl o_24 dR_member_161 (fun H locs hP hD hS => ?_)
                    have hP : va_P (dC, dI) classes [(h0, .inr (3, [.int 0, .ref ta, .int zs, .int po, .int fa, .ref da, .ref ra, .ref la, .long we, .long le, .int pk, .int pm, .int co, .ref pa, .int pl, .ref xa, .ref ya, .int mb, .ref ea, .ref wa])), (ea, .inl (cI, 24, .inl (upd (upd (upd (upd ef (4 * mb).toNatClampNeg x0) ((4 * mb) + 1).toNatClampNeg y0) ((4 * mb) + 2).toNatClampNeg x1) ((4 * mb) + 3).toNatClampNeg y1))), (wa, .inl (cI, 6, .inl (upd wf mb.toNatClampNeg wd)))] H := hP
                    have hD : va_D A [(h0, .inr (3, [.int 0, .ref ta, .int zs, .int po, .int fa, .ref da, .ref ra, .ref la, .long we, .long le, .int pk, .int pm, .int co, .ref pa, .int pl, .ref xa, .ref ya, .int mb, .ref ea, .ref wa])), (ea, .inl (cI, 24, .inl (upd (upd (upd (upd ef (4 * mb).toNatClampNeg x0) ((4 * mb) + 1).toNatClampNeg y0) ((4 * mb) + 2).toNatClampNeg x1) ((4 * mb) + 3).toNatClampNeg y1))), (wa, .inl (cI, 6, .inl (upd wf mb.toNatClampNeg wd)))] := hD
                    refine lv_aload_n hx hb dR_member_162 rfl (lv_at hl 1 rfl) ?_
                    refine lv_dup hx hb dR_member_163 rfl ?_
                    refine va_get (D := (dC, dI)) (ci := 3) (v := .int mb) (C := xR_R) (T := xF_R) (N := 20) hx hb hts xi_R hown hK hP 0 rfl rfl 17 (by decide) (hts _ xk_663) (fun _ h9 => h9) rfl dR_member_164 ?_
                    refine lv_iconst (v := 1) hx hb dR_member_167 (by decide) ?_
                    refine lv_iadd hx hb dR_member_168 ?_
                    refine va_put (D := (dC, dI)) (ci := 3) (v := .int (mb + 1)) (ty := .int) (C := xR_R) (T := xF_R) (N := 20) hx hb hts xi_R xt_R xt_R_ok xn_R hown hK hP hD hS 0 rfl rfl 17 (by decide) (hts _ xk_663) (fun _ h9 => h9) rfl (by decide +kernel) rfl rfl (Nat.le_of_ble_eq_true rfl) dR_member_169 (fun H locs hP hD hS => ?_)
                    have hP : va_P (dC, dI) classes [(h0, .inr (3, [.int 0, .ref ta, .int zs, .int po, .int fa, .ref da, .ref ra, .ref la, .long we, .long le, .int pk, .int pm, .int co, .ref pa, .int pl, .ref xa, .ref ya, .int (mb + 1), .ref ea, .ref wa])), (ea, .inl (cI, 24, .inl (upd (upd (upd (upd ef (4 * mb).toNatClampNeg x0) ((4 * mb) + 1).toNatClampNeg y0) ((4 * mb) + 2).toNatClampNeg x1) ((4 * mb) + 3).toNatClampNeg y1))), (wa, .inl (cI, 6, .inl (upd wf mb.toNatClampNeg wd)))] H := hP
                    have hD : va_D A [(h0, .inr (3, [.int 0, .ref ta, .int zs, .int po, .int fa, .ref da, .ref ra, .ref la, .long we, .long le, .int pk, .int pm, .int co, .ref pa, .int pl, .ref xa, .ref ya, .int (mb + 1), .ref ea, .ref wa])), (ea, .inl (cI, 24, .inl (upd (upd (upd (upd ef (4 * mb).toNatClampNeg x0) ((4 * mb) + 1).toNatClampNeg y0) ((4 * mb) + 2).toNatClampNeg x1) ((4 * mb) + 3).toNatClampNeg y1))), (wa, .inl (cI, 6, .inl (upd wf mb.toNatClampNeg wd)))] := hD
                    refine lv_aload_n hx hb dR_member_172 rfl (lv_at hl 1 rfl) ?_
                    refine va_get (D := (dC, dI)) (ci := 3) (v := .int (mb + 1)) (C := xR_R) (T := xF_R) (N := 20) hx hb hts xi_R hown hK hP 0 rfl rfl 17 (by decide) (hts _ xk_663) (fun _ h9 => h9) rfl dR_member_173 ?_
                    refine lv_iconst (v := 1) hx hb dR_member_176 (by decide) ?_
                    refine lv_isub hx hb dR_member_177 ?_
                    have e_0 : gR_member ef wf mb x0 y0 x1 y1 wd = ((mb + 1) - 1) := (if_pos c_1).trans ((if_pos c_4).trans ((if_pos c_7).trans ((if_pos c_10).trans ((if_neg c_13).trans ((if_pos c_14).trans ((if_neg c_18).trans (rfl)))))))
                    have e_1 : gR_member_0 ef wf mb x0 y0 x1 y1 wd = (0 : Int32) := (if_pos c_1).trans ((if_pos c_4).trans ((if_pos c_7).trans ((if_pos c_10).trans ((if_neg c_13).trans ((if_pos c_14).trans ((if_neg c_18).trans (rfl)))))))
                    have e_2 : gR_member_17 ef wf mb x0 y0 x1 y1 wd = (mb + 1) := (if_pos c_1).trans ((if_pos c_4).trans ((if_pos c_7).trans ((if_pos c_10).trans ((if_neg c_13).trans ((if_pos c_14).trans ((if_neg c_18).trans (rfl)))))))
                    have e_3 : gR_member_e ef wf mb x0 y0 x1 y1 wd = (upd (upd (upd (upd ef (4 * mb).toNatClampNeg x0) ((4 * mb) + 1).toNatClampNeg y0) ((4 * mb) + 2).toNatClampNeg x1) ((4 * mb) + 3).toNatClampNeg y1) := (if_pos c_1).trans ((if_pos c_4).trans ((if_pos c_7).trans ((if_pos c_10).trans ((if_neg c_13).trans ((if_pos c_14).trans ((if_neg c_18).trans (rfl)))))))
                    have e_4 : gR_member_w ef wf mb x0 y0 x1 y1 wd = (upd wf mb.toNatClampNeg wd) := (if_pos c_1).trans ((if_pos c_4).trans ((if_pos c_7).trans ((if_pos c_10).trans ((if_neg c_13).trans ((if_pos c_14).trans ((if_neg c_18).trans (rfl)))))))
                    have hP9 := hP.sub (ws' := [(h0, .inr (3, [.int 0, .ref ta, .int zs, .int po, .int fa, .ref da, .ref ra, .ref la, .long we, .long le, .int pk, .int pm, .int co, .ref pa, .int pl, .ref xa, .ref ya, .int (mb + 1), .ref ea, .ref wa])), (ea, .inl (cI, 24, .inl (upd (upd (upd (upd ef (4 * mb).toNatClampNeg x0) ((4 * mb) + 1).toNatClampNeg y0) ((4 * mb) + 2).toNatClampNeg x1) ((4 * mb) + 3).toNatClampNeg y1))), (wa, .inl (cI, 6, .inl (upd wf mb.toNatClampNeg wd)))]) [0, 1, 2] rfl
                    have hD9 := hD.sub (ws' := [(h0, .inr (3, [.int 0, .ref ta, .int zs, .int po, .int fa, .ref da, .ref ra, .ref la, .long we, .long le, .int pk, .int pm, .int co, .ref pa, .int pl, .ref xa, .ref ya, .int (mb + 1), .ref ea, .ref wa])), (ea, .inl (cI, 24, .inl (upd (upd (upd (upd ef (4 * mb).toNatClampNeg x0) ((4 * mb) + 1).toNatClampNeg y0) ((4 * mb) + 2).toNatClampNeg x1) ((4 * mb) + 3).toNatClampNeg y1))), (wa, .inl (cI, 6, .inl (upd wf mb.toNatClampNeg wd)))]) [0, 1, 2] (by decide) rfl
                    exact W.iret (v := ((mb + 1) - 1)) hx hb hr (fun t ht hW => ⟨_, _, rfl, ⟨by first | rfl | (simp only [e_0, e_1, e_2, e_3, e_4]; try rfl), by first | rfl | (simp only [e_0, e_1, e_2, e_3, e_4]; try rfl)⟩, by rw [ht]; exact hP9, hD9, hS.F ht⟩) hS.2.2 dR_member_178
                  · exact absurd c_19 (by decide)
                · refine lv_iconst (v := 2) hx hb dR_member_79 (by decide) ?_
                  refine lv_goto (tgt := 84) hx hb dR_member_80 (by decide) ?_
                  refine va_put (D := (dC, dI)) (ci := 3) (v := .int 2) (ty := .int) (C := xR_R) (T := xF_R) (N := 20) hx hb hts xi_R xt_R xt_R_ok xn_R hown hK hP hD hS 0 rfl rfl 0 (by decide) (hts _ xk_646) (fun _ h9 => h9) rfl (by decide +kernel) rfl rfl (Nat.le_of_ble_eq_true rfl) dR_member_84 (fun H locs hP hD hS => ?_)
                  have hP : va_P (dC, dI) classes [(h0, .inr (3, [.int 2, .ref ta, .int zs, .int po, .int fa, .ref da, .ref ra, .ref la, .long we, .long le, .int pk, .int pm, .int co, .ref pa, .int pl, .ref xa, .ref ya, .int mb, .ref ea, .ref wa])), (ea, .inl (cI, 24, .inl ef)), (wa, .inl (cI, 6, .inl wf))] H := hP
                  have hD : va_D A [(h0, .inr (3, [.int 2, .ref ta, .int zs, .int po, .int fa, .ref da, .ref ra, .ref la, .long we, .long le, .int pk, .int pm, .int co, .ref pa, .int pl, .ref xa, .ref ya, .int mb, .ref ea, .ref wa])), (ea, .inl (cI, 24, .inl ef)), (wa, .inl (cI, 6, .inl wf))] := hD
                  refine lv_aload_n hx hb dR_member_87 rfl (lv_at hl 1 rfl) ?_
                  refine va_get (D := (dC, dI)) (ci := 3) (v := .int 2) (C := xR_R) (T := xF_R) (N := 20) hx hb hts xi_R hown hK hP 0 rfl rfl 0 (by decide) (hts _ xk_646) (fun _ h9 => h9) rfl dR_member_88 ?_
                  refine lv_if_le (tgt := 96) hx hb dR_member_91 (by decide) (fun c_25 => ?_) (fun c_25 => ?_)
                  · exact absurd c_25 (by decide)
                  · refine lv_iconst (v := 0) hx hb dR_member_94 (by decide) ?_
                    have e_0 : gR_member ef wf mb x0 y0 x1 y1 wd = (0 : Int32) := (if_pos c_1).trans ((if_pos c_4).trans ((if_pos c_7).trans ((if_pos c_10).trans ((if_neg c_13).trans ((if_pos c_14).trans ((if_pos c_18).trans (rfl)))))))
                    have e_1 : gR_member_0 ef wf mb x0 y0 x1 y1 wd = (2 : Int32) := (if_pos c_1).trans ((if_pos c_4).trans ((if_pos c_7).trans ((if_pos c_10).trans ((if_neg c_13).trans ((if_pos c_14).trans ((if_pos c_18).trans (rfl)))))))
                    have e_2 : gR_member_17 ef wf mb x0 y0 x1 y1 wd = mb := (if_pos c_1).trans ((if_pos c_4).trans ((if_pos c_7).trans ((if_pos c_10).trans ((if_neg c_13).trans ((if_pos c_14).trans ((if_pos c_18).trans (rfl)))))))
                    have e_3 : gR_member_e ef wf mb x0 y0 x1 y1 wd = ef := (if_pos c_1).trans ((if_pos c_4).trans ((if_pos c_7).trans ((if_pos c_10).trans ((if_neg c_13).trans ((if_pos c_14).trans ((if_pos c_18).trans (rfl)))))))
                    have e_4 : gR_member_w ef wf mb x0 y0 x1 y1 wd = wf := (if_pos c_1).trans ((if_pos c_4).trans ((if_pos c_7).trans ((if_pos c_10).trans ((if_neg c_13).trans ((if_pos c_14).trans ((if_pos c_18).trans (rfl)))))))
                    have hP9 := hP.sub (ws' := [(h0, .inr (3, [.int 2, .ref ta, .int zs, .int po, .int fa, .ref da, .ref ra, .ref la, .long we, .long le, .int pk, .int pm, .int co, .ref pa, .int pl, .ref xa, .ref ya, .int mb, .ref ea, .ref wa])), (ea, .inl (cI, 24, .inl ef)), (wa, .inl (cI, 6, .inl wf))]) [0, 1, 2] rfl
                    have hD9 := hD.sub (ws' := [(h0, .inr (3, [.int 2, .ref ta, .int zs, .int po, .int fa, .ref da, .ref ra, .ref la, .long we, .long le, .int pk, .int pm, .int co, .ref pa, .int pl, .ref xa, .ref ya, .int mb, .ref ea, .ref wa])), (ea, .inl (cI, 24, .inl ef)), (wa, .inl (cI, 6, .inl wf))]) [0, 1, 2] (by decide) rfl
                    exact W.iret (v := 0) hx hb hr (fun t ht hW => ⟨_, _, rfl, ⟨by first | rfl | (simp only [e_0, e_1, e_2, e_3, e_4]; try rfl), by first | rfl | (simp only [e_0, e_1, e_2, e_3, e_4]; try rfl)⟩, by rw [ht]; exact hP9, hD9, hS.F ht⟩) hS.2.2 dR_member_95
              · exact absurd c_17 (by decide)
          · refine lv_iload_n hx hb dR_member_34 rfl (lv_at hl 2 rfl) ?_
            refine lv_iload hx hb dR_member_35 (lv_at hl 4 rfl) ?_
            refine lv_icmp_eq (tgt := 57) hx hb dR_member_37 (by decide) (fun c_26 => ?_) (fun c_26 => ?_)
            · refine lv_iconst (v := 0) hx hb dR_member_57 (by decide) ?_
              refine lv_istore (lv' := [(6, .int 0), (0, .ref h0), (1, .int x0), (2, .int y0), (3, .int x1), (4, .int y1), (5, .int wd)]) hx hb dR_member_58 hl (by decide) rfl (fun ls hl => ?_)
              refine lv_aload_n hx hb dR_member_60 rfl (lv_at hl 1 rfl) ?_
              refine lv_iload hx hb dR_member_61 (lv_at hl 0 rfl) ?_
              refine lv_if_ne (tgt := 70) hx hb dR_member_63 (by decide) (fun c_27 => ?_) (fun c_27 => ?_)
              · exact absurd c_27 (by decide)
              · refine lv_iconst (v := 1) hx hb dR_member_66 (by decide) ?_
                refine lv_goto (tgt := 84) hx hb dR_member_67 (by decide) ?_
                refine va_put (D := (dC, dI)) (ci := 3) (v := .int 1) (ty := .int) (C := xR_R) (T := xF_R) (N := 20) hx hb hts xi_R xt_R xt_R_ok xn_R hown hK hP hD hS 0 rfl rfl 0 (by decide) (hts _ xk_646) (fun _ h9 => h9) rfl (by decide +kernel) rfl rfl (Nat.le_of_ble_eq_true rfl) dR_member_84 (fun H locs hP hD hS => ?_)
                have hP : va_P (dC, dI) classes [(h0, .inr (3, [.int 1, .ref ta, .int zs, .int po, .int fa, .ref da, .ref ra, .ref la, .long we, .long le, .int pk, .int pm, .int co, .ref pa, .int pl, .ref xa, .ref ya, .int mb, .ref ea, .ref wa])), (ea, .inl (cI, 24, .inl ef)), (wa, .inl (cI, 6, .inl wf))] H := hP
                have hD : va_D A [(h0, .inr (3, [.int 1, .ref ta, .int zs, .int po, .int fa, .ref da, .ref ra, .ref la, .long we, .long le, .int pk, .int pm, .int co, .ref pa, .int pl, .ref xa, .ref ya, .int mb, .ref ea, .ref wa])), (ea, .inl (cI, 24, .inl ef)), (wa, .inl (cI, 6, .inl wf))] := hD
                refine lv_aload_n hx hb dR_member_87 rfl (lv_at hl 1 rfl) ?_
                refine va_get (D := (dC, dI)) (ci := 3) (v := .int 1) (C := xR_R) (T := xF_R) (N := 20) hx hb hts xi_R hown hK hP 0 rfl rfl 0 (by decide) (hts _ xk_646) (fun _ h9 => h9) rfl dR_member_88 ?_
                refine lv_if_le (tgt := 96) hx hb dR_member_91 (by decide) (fun c_28 => ?_) (fun c_28 => ?_)
                · exact absurd c_28 (by decide)
                · refine lv_iconst (v := 0) hx hb dR_member_94 (by decide) ?_
                  have e_0 : gR_member ef wf mb x0 y0 x1 y1 wd = (0 : Int32) := (if_pos c_1).trans ((if_pos c_4).trans ((if_pos c_7).trans ((if_pos c_10).trans ((if_pos c_13).trans ((if_pos c_26).trans (rfl))))))
                  have e_1 : gR_member_0 ef wf mb x0 y0 x1 y1 wd = (1 : Int32) := (if_pos c_1).trans ((if_pos c_4).trans ((if_pos c_7).trans ((if_pos c_10).trans ((if_pos c_13).trans ((if_pos c_26).trans (rfl))))))
                  have e_2 : gR_member_17 ef wf mb x0 y0 x1 y1 wd = mb := (if_pos c_1).trans ((if_pos c_4).trans ((if_pos c_7).trans ((if_pos c_10).trans ((if_pos c_13).trans ((if_pos c_26).trans (rfl))))))
                  have e_3 : gR_member_e ef wf mb x0 y0 x1 y1 wd = ef := (if_pos c_1).trans ((if_pos c_4).trans ((if_pos c_7).trans ((if_pos c_10).trans ((if_pos c_13).trans ((if_pos c_26).trans (rfl))))))
                  have e_4 : gR_member_w ef wf mb x0 y0 x1 y1 wd = wf := (if_pos c_1).trans ((if_pos c_4).trans ((if_pos c_7).trans ((if_pos c_10).trans ((if_pos c_13).trans ((if_pos c_26).trans (rfl))))))
                  have hP9 := hP.sub (ws' := [(h0, .inr (3, [.int 1, .ref ta, .int zs, .int po, .int fa, .ref da, .ref ra, .ref la, .long we, .long le, .int pk, .int pm, .int co, .ref pa, .int pl, .ref xa, .ref ya, .int mb, .ref ea, .ref wa])), (ea, .inl (cI, 24, .inl ef)), (wa, .inl (cI, 6, .inl wf))]) [0, 1, 2] rfl
                  have hD9 := hD.sub (ws' := [(h0, .inr (3, [.int 1, .ref ta, .int zs, .int po, .int fa, .ref da, .ref ra, .ref la, .long we, .long le, .int pk, .int pm, .int co, .ref pa, .int pl, .ref xa, .ref ya, .int mb, .ref ea, .ref wa])), (ea, .inl (cI, 24, .inl ef)), (wa, .inl (cI, 6, .inl wf))]) [0, 1, 2] (by decide) rfl
                  exact W.iret (v := 0) hx hb hr (fun t ht hW => ⟨_, _, rfl, ⟨by first | rfl | (simp only [e_0, e_1, e_2, e_3, e_4]; try rfl), by first | rfl | (simp only [e_0, e_1, e_2, e_3, e_4]; try rfl)⟩, by rw [ht]; exact hP9, hD9, hS.F ht⟩) hS.2.2 dR_member_95
            · refine lv_iload hx hb dR_member_40 (lv_at hl 5 rfl) ?_
              refine lv_i2l hx hb dR_member_42 rfl ?_
              refine lv_lconst (v := 1) hx hb dR_member_43 (by decide) ?_
              refine lv_ldc2 (v := 10000) hx hb hown (hts _ xk_823) dR_member_44 ?_
              refine xb_rd (W.runS (As := [.long wd.toInt64, .long 1, .long 10000]) (rest := []) ⟨hx, hb, hml, hown, hts⟩ (cR_isIn l E wd.toInt64 1 10000) (cwS 3 hts (xb_gi (List.forall_mem_cons.mpr ⟨xk_754, List.forall_mem_cons.mpr ⟨xk_755, List.forall_mem_cons.mpr ⟨xk_45, List.forall_mem_cons.mpr ⟨xk_756, fun _ h => absurd h List.not_mem_nil⟩⟩⟩⟩)) rfl rfl rfl (by decide +kernel) ⟨Nat.le_of_ble_eq_true rfl, Nat.le_of_ble_eq_true rfl⟩) ⟨fun _ _ _ _ q => q, fun U hU hW => ⟨rfl, xb_atS hAt hS hA0 hU hW, fun k q h => by simp at h⟩⟩ rfl rfl hl.1 rfl (lv_room (Nat.le_of_ble_eq_true rfl)) dR_member_47 ⟨Nat.zero_le _, Nat.zero_le _⟩) ?_
              refine lv_if_eq (tgt := 57) hx hb dR_member_50 (by decide) (fun c_29 => ?_) (fun c_29 => ?_)
              · have c_29 := xb_bi_f.mp c_29
                refine lv_iconst (v := 0) hx hb dR_member_57 (by decide) ?_
                refine lv_istore (lv' := [(6, .int 0), (0, .ref h0), (1, .int x0), (2, .int y0), (3, .int x1), (4, .int y1), (5, .int wd)]) hx hb dR_member_58 hl (by decide) rfl (fun ls hl => ?_)
                refine lv_aload_n hx hb dR_member_60 rfl (lv_at hl 1 rfl) ?_
                refine lv_iload hx hb dR_member_61 (lv_at hl 0 rfl) ?_
                refine lv_if_ne (tgt := 70) hx hb dR_member_63 (by decide) (fun c_30 => ?_) (fun c_30 => ?_)
                · exact absurd c_30 (by decide)
                · refine lv_iconst (v := 1) hx hb dR_member_66 (by decide) ?_
                  refine lv_goto (tgt := 84) hx hb dR_member_67 (by decide) ?_
                  refine va_put (D := (dC, dI)) (ci := 3) (v := .int 1) (ty := .int) (C := xR_R) (T := xF_R) (N := 20) hx hb hts xi_R xt_R xt_R_ok xn_R hown hK hP hD hS 0 rfl rfl 0 (by decide) (hts _ xk_646) (fun _ h9 => h9) rfl (by decide +kernel) rfl rfl (Nat.le_of_ble_eq_true rfl) dR_member_84 (fun H locs hP hD hS => ?_)
                  have hP : va_P (dC, dI) classes [(h0, .inr (3, [.int 1, .ref ta, .int zs, .int po, .int fa, .ref da, .ref ra, .ref la, .long we, .long le, .int pk, .int pm, .int co, .ref pa, .int pl, .ref xa, .ref ya, .int mb, .ref ea, .ref wa])), (ea, .inl (cI, 24, .inl ef)), (wa, .inl (cI, 6, .inl wf))] H := hP
                  have hD : va_D A [(h0, .inr (3, [.int 1, .ref ta, .int zs, .int po, .int fa, .ref da, .ref ra, .ref la, .long we, .long le, .int pk, .int pm, .int co, .ref pa, .int pl, .ref xa, .ref ya, .int mb, .ref ea, .ref wa])), (ea, .inl (cI, 24, .inl ef)), (wa, .inl (cI, 6, .inl wf))] := hD
                  refine lv_aload_n hx hb dR_member_87 rfl (lv_at hl 1 rfl) ?_
                  refine va_get (D := (dC, dI)) (ci := 3) (v := .int 1) (C := xR_R) (T := xF_R) (N := 20) hx hb hts xi_R hown hK hP 0 rfl rfl 0 (by decide) (hts _ xk_646) (fun _ h9 => h9) rfl dR_member_88 ?_
                  refine lv_if_le (tgt := 96) hx hb dR_member_91 (by decide) (fun c_31 => ?_) (fun c_31 => ?_)
                  · exact absurd c_31 (by decide)
                  · refine lv_iconst (v := 0) hx hb dR_member_94 (by decide) ?_
                    have e_0 : gR_member ef wf mb x0 y0 x1 y1 wd = (0 : Int32) := (if_pos c_1).trans ((if_pos c_4).trans ((if_pos c_7).trans ((if_pos c_10).trans ((if_pos c_13).trans ((if_neg c_26).trans ((if_neg c_29).trans (rfl)))))))
                    have e_1 : gR_member_0 ef wf mb x0 y0 x1 y1 wd = (1 : Int32) := (if_pos c_1).trans ((if_pos c_4).trans ((if_pos c_7).trans ((if_pos c_10).trans ((if_pos c_13).trans ((if_neg c_26).trans ((if_neg c_29).trans (rfl)))))))
                    have e_2 : gR_member_17 ef wf mb x0 y0 x1 y1 wd = mb := (if_pos c_1).trans ((if_pos c_4).trans ((if_pos c_7).trans ((if_pos c_10).trans ((if_pos c_13).trans ((if_neg c_26).trans ((if_neg c_29).trans (rfl)))))))
                    have e_3 : gR_member_e ef wf mb x0 y0 x1 y1 wd = ef := (if_pos c_1).trans ((if_pos c_4).trans ((if_pos c_7).trans ((if_pos c_10).trans ((if_pos c_13).trans ((if_neg c_26).trans ((if_neg c_29).trans (rfl)))))))
                    have e_4 : gR_member_w ef wf mb x0 y0 x1 y1 wd = wf := (if_pos c_1).trans ((if_pos c_4).trans ((if_pos c_7).trans ((if_pos c_10).trans ((if_pos c_13).trans ((if_neg c_26).trans ((if_neg c_29).trans (rfl)))))))
                    have hP9 := hP.sub (ws' := [(h0, .inr (3, [.int 1, .ref ta, .int zs, .int po, .int fa, .ref da, .ref ra, .ref la, .long we, .long le, .int pk, .int pm, .int co, .ref pa, .int pl, .ref xa, .ref ya, .int mb, .ref ea, .ref wa])), (ea, .inl (cI, 24, .inl ef)), (wa, .inl (cI, 6, .inl wf))]) [0, 1, 2] rfl
                    have hD9 := hD.sub (ws' := [(h0, .inr (3, [.int 1, .ref ta, .int zs, .int po, .int fa, .ref da, .ref ra, .ref la, .long we, .long le, .int pk, .int pm, .int co, .ref pa, .int pl, .ref xa, .ref ya, .int mb, .ref ea, .ref wa])), (ea, .inl (cI, 24, .inl ef)), (wa, .inl (cI, 6, .inl wf))]) [0, 1, 2] (by decide) rfl
                    exact W.iret (v := 0) hx hb hr (fun t ht hW => ⟨_, _, rfl, ⟨by first | rfl | (simp only [e_0, e_1, e_2, e_3, e_4]; try rfl), by first | rfl | (simp only [e_0, e_1, e_2, e_3, e_4]; try rfl)⟩, by rw [ht]; exact hP9, hD9, hS.F ht⟩) hS.2.2 dR_member_95
              · have c_29 := xb_bi_t.mp c_29
                refine lv_iconst (v := 1) hx hb dR_member_53 (by decide) ?_
                refine lv_goto (tgt := 58) hx hb dR_member_54 (by decide) ?_
                refine lv_istore (lv' := [(6, .int 1), (0, .ref h0), (1, .int x0), (2, .int y0), (3, .int x1), (4, .int y1), (5, .int wd)]) hx hb dR_member_58 hl (by decide) rfl (fun ls hl => ?_)
                refine lv_aload_n hx hb dR_member_60 rfl (lv_at hl 1 rfl) ?_
                refine lv_iload hx hb dR_member_61 (lv_at hl 0 rfl) ?_
                refine lv_if_ne (tgt := 70) hx hb dR_member_63 (by decide) (fun c_32 => ?_) (fun c_32 => ?_)
                · refine lv_aload_n hx hb dR_member_70 rfl (lv_at hl 1 rfl) ?_
                  refine va_get (D := (dC, dI)) (ci := 3) (v := .int mb) (C := xR_R) (T := xF_R) (N := 20) hx hb hts xi_R hown hK hP 0 rfl rfl 17 (by decide) (hts _ xk_663) (fun _ h9 => h9) rfl dR_member_71 ?_
                  refine lv_bipush (v := 6) hx hb dR_member_74 (by decide) ?_
                  refine lv_icmp_ne (tgt := 83) hx hb dR_member_76 (by decide) (fun c_33 => ?_) (fun c_33 => ?_)
                  · refine lv_iconst (v := 0) hx hb dR_member_83 (by decide) ?_
                    refine va_put (D := (dC, dI)) (ci := 3) (v := .int 0) (ty := .int) (C := xR_R) (T := xF_R) (N := 20) hx hb hts xi_R xt_R xt_R_ok xn_R hown hK hP hD hS 0 rfl rfl 0 (by decide) (hts _ xk_646) (fun _ h9 => h9) rfl (by decide +kernel) rfl rfl (Nat.le_of_ble_eq_true rfl) dR_member_84 (fun H locs hP hD hS => ?_)
                    have hP : va_P (dC, dI) classes [(h0, .inr (3, [.int 0, .ref ta, .int zs, .int po, .int fa, .ref da, .ref ra, .ref la, .long we, .long le, .int pk, .int pm, .int co, .ref pa, .int pl, .ref xa, .ref ya, .int mb, .ref ea, .ref wa])), (ea, .inl (cI, 24, .inl ef)), (wa, .inl (cI, 6, .inl wf))] H := hP
                    have hD : va_D A [(h0, .inr (3, [.int 0, .ref ta, .int zs, .int po, .int fa, .ref da, .ref ra, .ref la, .long we, .long le, .int pk, .int pm, .int co, .ref pa, .int pl, .ref xa, .ref ya, .int mb, .ref ea, .ref wa])), (ea, .inl (cI, 24, .inl ef)), (wa, .inl (cI, 6, .inl wf))] := hD
                    refine lv_aload_n hx hb dR_member_87 rfl (lv_at hl 1 rfl) ?_
                    refine va_get (D := (dC, dI)) (ci := 3) (v := .int 0) (C := xR_R) (T := xF_R) (N := 20) hx hb hts xi_R hown hK hP 0 rfl rfl 0 (by decide) (hts _ xk_646) (fun _ h9 => h9) rfl dR_member_88 ?_
                    refine lv_if_le (tgt := 96) hx hb dR_member_91 (by decide) (fun c_34 => ?_) (fun c_34 => ?_)
                    · refine lv_aload_n hx hb dR_member_96 rfl (lv_at hl 1 rfl) ?_
                      refine va_get (D := (dC, dI)) (ci := 3) (v := .ref ea) (C := xR_R) (T := xF_R) (N := 20) hx hb hts xi_R hown hK hP 0 rfl rfl 18 (by decide) (hts _ xk_664) (fun _ h9 => h9) rfl dR_member_97 ?_
                      refine lv_iconst (v := 4) hx hb dR_member_100 (by decide) ?_
                      refine lv_aload_n hx hb dR_member_101 rfl (lv_at hl 1 rfl) ?_
                      refine va_get (D := (dC, dI)) (ci := 3) (v := .int mb) (C := xR_R) (T := xF_R) (N := 20) hx hb hts xi_R hown hK hP 0 rfl rfl 17 (by decide) (hts _ xk_663) (fun _ h9 => h9) rfl dR_member_102 ?_
                      refine lv_imul hx hb dR_member_105 ?_
                      refine lv_iload_n hx hb dR_member_106 rfl (lv_at hl 2 rfl) ?_
                      have o_35 : vp_in (4 * mb) 24 := by exact (xp_mb (by assumption) m0 m6).1
                      refine va_iast hx hb hK hP hD hS 1 0 rfl rfl o_35 dR_member_107 (fun H locs hP hD hS => ?_)
                      have hP : va_P (dC, dI) classes [(h0, .inr (3, [.int 0, .ref ta, .int zs, .int po, .int fa, .ref da, .ref ra, .ref la, .long we, .long le, .int pk, .int pm, .int co, .ref pa, .int pl, .ref xa, .ref ya, .int mb, .ref ea, .ref wa])), (ea, .inl (cI, 24, .inl (upd ef (4 * mb).toNatClampNeg x0))), (wa, .inl (cI, 6, .inl wf))] H := hP
                      have hD : va_D A [(h0, .inr (3, [.int 0, .ref ta, .int zs, .int po, .int fa, .ref da, .ref ra, .ref la, .long we, .long le, .int pk, .int pm, .int co, .ref pa, .int pl, .ref xa, .ref ya, .int mb, .ref ea, .ref wa])), (ea, .inl (cI, 24, .inl (upd ef (4 * mb).toNatClampNeg x0))), (wa, .inl (cI, 6, .inl wf))] := hD
                      refine lv_aload_n hx hb dR_member_108 rfl (lv_at hl 1 rfl) ?_
                      refine va_get (D := (dC, dI)) (ci := 3) (v := .ref ea) (C := xR_R) (T := xF_R) (N := 20) hx hb hts xi_R hown hK hP 0 rfl rfl 18 (by decide) (hts _ xk_664) (fun _ h9 => h9) rfl dR_member_109 ?_
                      refine lv_iconst (v := 4) hx hb dR_member_112 (by decide) ?_
                      refine lv_aload_n hx hb dR_member_113 rfl (lv_at hl 1 rfl) ?_
                      refine va_get (D := (dC, dI)) (ci := 3) (v := .int mb) (C := xR_R) (T := xF_R) (N := 20) hx hb hts xi_R hown hK hP 0 rfl rfl 17 (by decide) (hts _ xk_663) (fun _ h9 => h9) rfl dR_member_114 ?_
                      refine lv_imul hx hb dR_member_117 ?_
                      refine lv_iconst (v := 1) hx hb dR_member_118 (by decide) ?_
                      refine lv_iadd hx hb dR_member_119 ?_
                      refine lv_iload_n hx hb dR_member_120 rfl (lv_at hl 3 rfl) ?_
                      have o_36 : vp_in ((4 * mb) + 1) 24 := by exact (xp_mb (by assumption) m0 m6).2.1
                      refine va_iast hx hb hK hP hD hS 1 0 rfl rfl o_36 dR_member_121 (fun H locs hP hD hS => ?_)
                      have hP : va_P (dC, dI) classes [(h0, .inr (3, [.int 0, .ref ta, .int zs, .int po, .int fa, .ref da, .ref ra, .ref la, .long we, .long le, .int pk, .int pm, .int co, .ref pa, .int pl, .ref xa, .ref ya, .int mb, .ref ea, .ref wa])), (ea, .inl (cI, 24, .inl (upd (upd ef (4 * mb).toNatClampNeg x0) ((4 * mb) + 1).toNatClampNeg y0))), (wa, .inl (cI, 6, .inl wf))] H := hP
                      have hD : va_D A [(h0, .inr (3, [.int 0, .ref ta, .int zs, .int po, .int fa, .ref da, .ref ra, .ref la, .long we, .long le, .int pk, .int pm, .int co, .ref pa, .int pl, .ref xa, .ref ya, .int mb, .ref ea, .ref wa])), (ea, .inl (cI, 24, .inl (upd (upd ef (4 * mb).toNatClampNeg x0) ((4 * mb) + 1).toNatClampNeg y0))), (wa, .inl (cI, 6, .inl wf))] := hD
                      refine lv_aload_n hx hb dR_member_122 rfl (lv_at hl 1 rfl) ?_
                      refine va_get (D := (dC, dI)) (ci := 3) (v := .ref ea) (C := xR_R) (T := xF_R) (N := 20) hx hb hts xi_R hown hK hP 0 rfl rfl 18 (by decide) (hts _ xk_664) (fun _ h9 => h9) rfl dR_member_123 ?_
                      refine lv_iconst (v := 4) hx hb dR_member_126 (by decide) ?_
                      refine lv_aload_n hx hb dR_member_127 rfl (lv_at hl 1 rfl) ?_
                      refine va_get (D := (dC, dI)) (ci := 3) (v := .int mb) (C := xR_R) (T := xF_R) (N := 20) hx hb hts xi_R hown hK hP 0 rfl rfl 17 (by decide) (hts _ xk_663) (fun _ h9 => h9) rfl dR_member_128 ?_
                      refine lv_imul hx hb dR_member_131 ?_
                      refine lv_iconst (v := 2) hx hb dR_member_132 (by decide) ?_
                      refine lv_iadd hx hb dR_member_133 ?_
                      refine lv_iload_n hx hb dR_member_134 rfl (lv_at hl 4 rfl) ?_
                      have o_37 : vp_in ((4 * mb) + 2) 24 := by exact (xp_mb (by assumption) m0 m6).2.2.1
                      refine va_iast hx hb hK hP hD hS 1 0 rfl rfl o_37 dR_member_135 (fun H locs hP hD hS => ?_)
                      have hP : va_P (dC, dI) classes [(h0, .inr (3, [.int 0, .ref ta, .int zs, .int po, .int fa, .ref da, .ref ra, .ref la, .long we, .long le, .int pk, .int pm, .int co, .ref pa, .int pl, .ref xa, .ref ya, .int mb, .ref ea, .ref wa])), (ea, .inl (cI, 24, .inl (upd (upd (upd ef (4 * mb).toNatClampNeg x0) ((4 * mb) + 1).toNatClampNeg y0) ((4 * mb) + 2).toNatClampNeg x1))), (wa, .inl (cI, 6, .inl wf))] H := hP
                      have hD : va_D A [(h0, .inr (3, [.int 0, .ref ta, .int zs, .int po, .int fa, .ref da, .ref ra, .ref la, .long we, .long le, .int pk, .int pm, .int co, .ref pa, .int pl, .ref xa, .ref ya, .int mb, .ref ea, .ref wa])), (ea, .inl (cI, 24, .inl (upd (upd (upd ef (4 * mb).toNatClampNeg x0) ((4 * mb) + 1).toNatClampNeg y0) ((4 * mb) + 2).toNatClampNeg x1))), (wa, .inl (cI, 6, .inl wf))] := hD
                      refine lv_aload_n hx hb dR_member_136 rfl (lv_at hl 1 rfl) ?_
                      refine va_get (D := (dC, dI)) (ci := 3) (v := .ref ea) (C := xR_R) (T := xF_R) (N := 20) hx hb hts xi_R hown hK hP 0 rfl rfl 18 (by decide) (hts _ xk_664) (fun _ h9 => h9) rfl dR_member_137 ?_
                      refine lv_iconst (v := 4) hx hb dR_member_140 (by decide) ?_
                      refine lv_aload_n hx hb dR_member_141 rfl (lv_at hl 1 rfl) ?_
                      refine va_get (D := (dC, dI)) (ci := 3) (v := .int mb) (C := xR_R) (T := xF_R) (N := 20) hx hb hts xi_R hown hK hP 0 rfl rfl 17 (by decide) (hts _ xk_663) (fun _ h9 => h9) rfl dR_member_142 ?_
                      refine lv_imul hx hb dR_member_145 ?_
                      refine lv_iconst (v := 3) hx hb dR_member_146 (by decide) ?_
                      refine lv_iadd hx hb dR_member_147 ?_
                      refine lv_iload hx hb dR_member_148 (lv_at hl 5 rfl) ?_
                      have o_38 : vp_in ((4 * mb) + 3) 24 := by exact (xp_mb (by assumption) m0 m6).2.2.2.1
                      refine va_iast hx hb hK hP hD hS 1 0 rfl rfl o_38 dR_member_150 (fun H locs hP hD hS => ?_)
                      have hP : va_P (dC, dI) classes [(h0, .inr (3, [.int 0, .ref ta, .int zs, .int po, .int fa, .ref da, .ref ra, .ref la, .long we, .long le, .int pk, .int pm, .int co, .ref pa, .int pl, .ref xa, .ref ya, .int mb, .ref ea, .ref wa])), (ea, .inl (cI, 24, .inl (upd (upd (upd (upd ef (4 * mb).toNatClampNeg x0) ((4 * mb) + 1).toNatClampNeg y0) ((4 * mb) + 2).toNatClampNeg x1) ((4 * mb) + 3).toNatClampNeg y1))), (wa, .inl (cI, 6, .inl wf))] H := hP
                      have hD : va_D A [(h0, .inr (3, [.int 0, .ref ta, .int zs, .int po, .int fa, .ref da, .ref ra, .ref la, .long we, .long le, .int pk, .int pm, .int co, .ref pa, .int pl, .ref xa, .ref ya, .int mb, .ref ea, .ref wa])), (ea, .inl (cI, 24, .inl (upd (upd (upd (upd ef (4 * mb).toNatClampNeg x0) ((4 * mb) + 1).toNatClampNeg y0) ((4 * mb) + 2).toNatClampNeg x1) ((4 * mb) + 3).toNatClampNeg y1))), (wa, .inl (cI, 6, .inl wf))] := hD
                      refine lv_aload_n hx hb dR_member_151 rfl (lv_at hl 1 rfl) ?_
                      refine va_get (D := (dC, dI)) (ci := 3) (v := .ref wa) (C := xR_R) (T := xF_R) (N := 20) hx hb hts xi_R hown hK hP 0 rfl rfl 19 (by decide) (hts _ xk_665) (fun _ h9 => h9) rfl dR_member_152 ?_
                      refine lv_aload_n hx hb dR_member_155 rfl (lv_at hl 1 rfl) ?_
                      refine va_get (D := (dC, dI)) (ci := 3) (v := .int mb) (C := xR_R) (T := xF_R) (N := 20) hx hb hts xi_R hown hK hP 0 rfl rfl 17 (by decide) (hts _ xk_663) (fun _ h9 => h9) rfl dR_member_156 ?_
                      refine lv_iload hx hb dR_member_159 (lv_at hl 6 rfl) ?_
                      have o_39 : vp_in mb 6 := by exact (xp_mb (by assumption) m0 m6).2.2.2.2
                      refine va_iast hx hb hK hP hD hS 2 0 rfl rfl o_39 dR_member_161 (fun H locs hP hD hS => ?_)
                      have hP : va_P (dC, dI) classes [(h0, .inr (3, [.int 0, .ref ta, .int zs, .int po, .int fa, .ref da, .ref ra, .ref la, .long we, .long le, .int pk, .int pm, .int co, .ref pa, .int pl, .ref xa, .ref ya, .int mb, .ref ea, .ref wa])), (ea, .inl (cI, 24, .inl (upd (upd (upd (upd ef (4 * mb).toNatClampNeg x0) ((4 * mb) + 1).toNatClampNeg y0) ((4 * mb) + 2).toNatClampNeg x1) ((4 * mb) + 3).toNatClampNeg y1))), (wa, .inl (cI, 6, .inl (upd wf mb.toNatClampNeg wd)))] H := hP
                      have hD : va_D A [(h0, .inr (3, [.int 0, .ref ta, .int zs, .int po, .int fa, .ref da, .ref ra, .ref la, .long we, .long le, .int pk, .int pm, .int co, .ref pa, .int pl, .ref xa, .ref ya, .int mb, .ref ea, .ref wa])), (ea, .inl (cI, 24, .inl (upd (upd (upd (upd ef (4 * mb).toNatClampNeg x0) ((4 * mb) + 1).toNatClampNeg y0) ((4 * mb) + 2).toNatClampNeg x1) ((4 * mb) + 3).toNatClampNeg y1))), (wa, .inl (cI, 6, .inl (upd wf mb.toNatClampNeg wd)))] := hD
                      refine lv_aload_n hx hb dR_member_162 rfl (lv_at hl 1 rfl) ?_
                      refine lv_dup hx hb dR_member_163 rfl ?_
                      refine va_get (D := (dC, dI)) (ci := 3) (v := .int mb) (C := xR_R) (T := xF_R) (N := 20) hx hb hts xi_R hown hK hP 0 rfl rfl 17 (by decide) (hts _ xk_663) (fun _ h9 => h9) rfl dR_member_164 ?_
                      refine lv_iconst (v := 1) hx hb dR_member_167 (by decide) ?_
                      refine lv_iadd hx hb dR_member_168 ?_
                      refine va_put (D := (dC, dI)) (ci := 3) (v := .int (mb + 1)) (ty := .int) (C := xR_R) (T := xF_R) (N := 20) hx hb hts xi_R xt_R xt_R_ok xn_R hown hK hP hD hS 0 rfl rfl 17 (by decide) (hts _ xk_663) (fun _ h9 => h9) rfl (by decide +kernel) rfl rfl (Nat.le_of_ble_eq_true rfl) dR_member_169 (fun H locs hP hD hS => ?_)
                      have hP : va_P (dC, dI) classes [(h0, .inr (3, [.int 0, .ref ta, .int zs, .int po, .int fa, .ref da, .ref ra, .ref la, .long we, .long le, .int pk, .int pm, .int co, .ref pa, .int pl, .ref xa, .ref ya, .int (mb + 1), .ref ea, .ref wa])), (ea, .inl (cI, 24, .inl (upd (upd (upd (upd ef (4 * mb).toNatClampNeg x0) ((4 * mb) + 1).toNatClampNeg y0) ((4 * mb) + 2).toNatClampNeg x1) ((4 * mb) + 3).toNatClampNeg y1))), (wa, .inl (cI, 6, .inl (upd wf mb.toNatClampNeg wd)))] H := hP
                      have hD : va_D A [(h0, .inr (3, [.int 0, .ref ta, .int zs, .int po, .int fa, .ref da, .ref ra, .ref la, .long we, .long le, .int pk, .int pm, .int co, .ref pa, .int pl, .ref xa, .ref ya, .int (mb + 1), .ref ea, .ref wa])), (ea, .inl (cI, 24, .inl (upd (upd (upd (upd ef (4 * mb).toNatClampNeg x0) ((4 * mb) + 1).toNatClampNeg y0) ((4 * mb) + 2).toNatClampNeg x1) ((4 * mb) + 3).toNatClampNeg y1))), (wa, .inl (cI, 6, .inl (upd wf mb.toNatClampNeg wd)))] := hD
                      refine lv_aload_n hx hb dR_member_172 rfl (lv_at hl 1 rfl) ?_
                      refine va_get (D := (dC, dI)) (ci := 3) (v := .int (mb + 1)) (C := xR_R) (T := xF_R) (N := 20) hx hb hts xi_R hown hK hP 0 rfl rfl 17 (by decide) (hts _ xk_663) (fun _ h9 => h9) rfl dR_member_173 ?_
                      refine lv_iconst (v := 1) hx hb dR_member_176 (by decide) ?_
                      refine lv_isub hx hb dR_member_177 ?_
                      have e_0 : gR_member ef wf mb x0 y0 x1 y1 wd = ((mb + 1) - 1) := (if_pos c_1).trans ((if_pos c_4).trans ((if_pos c_7).trans ((if_pos c_10).trans ((if_pos c_13).trans ((if_neg c_26).trans ((if_pos c_29).trans ((if_neg c_33).trans (rfl))))))))
                      have e_1 : gR_member_0 ef wf mb x0 y0 x1 y1 wd = (0 : Int32) := (if_pos c_1).trans ((if_pos c_4).trans ((if_pos c_7).trans ((if_pos c_10).trans ((if_pos c_13).trans ((if_neg c_26).trans ((if_pos c_29).trans ((if_neg c_33).trans (rfl))))))))
                      have e_2 : gR_member_17 ef wf mb x0 y0 x1 y1 wd = (mb + 1) := (if_pos c_1).trans ((if_pos c_4).trans ((if_pos c_7).trans ((if_pos c_10).trans ((if_pos c_13).trans ((if_neg c_26).trans ((if_pos c_29).trans ((if_neg c_33).trans (rfl))))))))
                      have e_3 : gR_member_e ef wf mb x0 y0 x1 y1 wd = (upd (upd (upd (upd ef (4 * mb).toNatClampNeg x0) ((4 * mb) + 1).toNatClampNeg y0) ((4 * mb) + 2).toNatClampNeg x1) ((4 * mb) + 3).toNatClampNeg y1) := (if_pos c_1).trans ((if_pos c_4).trans ((if_pos c_7).trans ((if_pos c_10).trans ((if_pos c_13).trans ((if_neg c_26).trans ((if_pos c_29).trans ((if_neg c_33).trans (rfl))))))))
                      have e_4 : gR_member_w ef wf mb x0 y0 x1 y1 wd = (upd wf mb.toNatClampNeg wd) := (if_pos c_1).trans ((if_pos c_4).trans ((if_pos c_7).trans ((if_pos c_10).trans ((if_pos c_13).trans ((if_neg c_26).trans ((if_pos c_29).trans ((if_neg c_33).trans (rfl))))))))
                      have hP9 := hP.sub (ws' := [(h0, .inr (3, [.int 0, .ref ta, .int zs, .int po, .int fa, .ref da, .ref ra, .ref la, .long we, .long le, .int pk, .int pm, .int co, .ref pa, .int pl, .ref xa, .ref ya, .int (mb + 1), .ref ea, .ref wa])), (ea, .inl (cI, 24, .inl (upd (upd (upd (upd ef (4 * mb).toNatClampNeg x0) ((4 * mb) + 1).toNatClampNeg y0) ((4 * mb) + 2).toNatClampNeg x1) ((4 * mb) + 3).toNatClampNeg y1))), (wa, .inl (cI, 6, .inl (upd wf mb.toNatClampNeg wd)))]) [0, 1, 2] rfl
                      have hD9 := hD.sub (ws' := [(h0, .inr (3, [.int 0, .ref ta, .int zs, .int po, .int fa, .ref da, .ref ra, .ref la, .long we, .long le, .int pk, .int pm, .int co, .ref pa, .int pl, .ref xa, .ref ya, .int (mb + 1), .ref ea, .ref wa])), (ea, .inl (cI, 24, .inl (upd (upd (upd (upd ef (4 * mb).toNatClampNeg x0) ((4 * mb) + 1).toNatClampNeg y0) ((4 * mb) + 2).toNatClampNeg x1) ((4 * mb) + 3).toNatClampNeg y1))), (wa, .inl (cI, 6, .inl (upd wf mb.toNatClampNeg wd)))]) [0, 1, 2] (by decide) rfl
                      exact W.iret (v := ((mb + 1) - 1)) hx hb hr (fun t ht hW => ⟨_, _, rfl, ⟨by first | rfl | (simp only [e_0, e_1, e_2, e_3, e_4]; try rfl), by first | rfl | (simp only [e_0, e_1, e_2, e_3, e_4]; try rfl)⟩, by rw [ht]; exact hP9, hD9, hS.F ht⟩) hS.2.2 dR_member_178
                    · exact absurd c_34 (by decide)
                  · refine lv_iconst (v := 2) hx hb dR_member_79 (by decide) ?_
                    refine lv_goto (tgt := 84) hx hb dR_member_80 (by decide) ?_
                    refine va_put (D := (dC, dI)) (ci := 3) (v := .int 2) (ty := .int) (C := xR_R) (T := xF_R) (N := 20) hx hb hts xi_R xt_R xt_R_ok xn_R hown hK hP hD hS 0 rfl rfl 0 (by decide) (hts _ xk_646) (fun _ h9 => h9) rfl (by decide +kernel) rfl rfl (Nat.le_of_ble_eq_true rfl) dR_member_84 (fun H locs hP hD hS => ?_)
                    have hP : va_P (dC, dI) classes [(h0, .inr (3, [.int 2, .ref ta, .int zs, .int po, .int fa, .ref da, .ref ra, .ref la, .long we, .long le, .int pk, .int pm, .int co, .ref pa, .int pl, .ref xa, .ref ya, .int mb, .ref ea, .ref wa])), (ea, .inl (cI, 24, .inl ef)), (wa, .inl (cI, 6, .inl wf))] H := hP
                    have hD : va_D A [(h0, .inr (3, [.int 2, .ref ta, .int zs, .int po, .int fa, .ref da, .ref ra, .ref la, .long we, .long le, .int pk, .int pm, .int co, .ref pa, .int pl, .ref xa, .ref ya, .int mb, .ref ea, .ref wa])), (ea, .inl (cI, 24, .inl ef)), (wa, .inl (cI, 6, .inl wf))] := hD
                    refine lv_aload_n hx hb dR_member_87 rfl (lv_at hl 1 rfl) ?_
                    refine va_get (D := (dC, dI)) (ci := 3) (v := .int 2) (C := xR_R) (T := xF_R) (N := 20) hx hb hts xi_R hown hK hP 0 rfl rfl 0 (by decide) (hts _ xk_646) (fun _ h9 => h9) rfl dR_member_88 ?_
                    refine lv_if_le (tgt := 96) hx hb dR_member_91 (by decide) (fun c_40 => ?_) (fun c_40 => ?_)
                    · exact absurd c_40 (by decide)
                    · refine lv_iconst (v := 0) hx hb dR_member_94 (by decide) ?_
                      have e_0 : gR_member ef wf mb x0 y0 x1 y1 wd = (0 : Int32) := (if_pos c_1).trans ((if_pos c_4).trans ((if_pos c_7).trans ((if_pos c_10).trans ((if_pos c_13).trans ((if_neg c_26).trans ((if_pos c_29).trans ((if_pos c_33).trans (rfl))))))))
                      have e_1 : gR_member_0 ef wf mb x0 y0 x1 y1 wd = (2 : Int32) := (if_pos c_1).trans ((if_pos c_4).trans ((if_pos c_7).trans ((if_pos c_10).trans ((if_pos c_13).trans ((if_neg c_26).trans ((if_pos c_29).trans ((if_pos c_33).trans (rfl))))))))
                      have e_2 : gR_member_17 ef wf mb x0 y0 x1 y1 wd = mb := (if_pos c_1).trans ((if_pos c_4).trans ((if_pos c_7).trans ((if_pos c_10).trans ((if_pos c_13).trans ((if_neg c_26).trans ((if_pos c_29).trans ((if_pos c_33).trans (rfl))))))))
                      have e_3 : gR_member_e ef wf mb x0 y0 x1 y1 wd = ef := (if_pos c_1).trans ((if_pos c_4).trans ((if_pos c_7).trans ((if_pos c_10).trans ((if_pos c_13).trans ((if_neg c_26).trans ((if_pos c_29).trans ((if_pos c_33).trans (rfl))))))))
                      have e_4 : gR_member_w ef wf mb x0 y0 x1 y1 wd = wf := (if_pos c_1).trans ((if_pos c_4).trans ((if_pos c_7).trans ((if_pos c_10).trans ((if_pos c_13).trans ((if_neg c_26).trans ((if_pos c_29).trans ((if_pos c_33).trans (rfl))))))))
                      have hP9 := hP.sub (ws' := [(h0, .inr (3, [.int 2, .ref ta, .int zs, .int po, .int fa, .ref da, .ref ra, .ref la, .long we, .long le, .int pk, .int pm, .int co, .ref pa, .int pl, .ref xa, .ref ya, .int mb, .ref ea, .ref wa])), (ea, .inl (cI, 24, .inl ef)), (wa, .inl (cI, 6, .inl wf))]) [0, 1, 2] rfl
                      have hD9 := hD.sub (ws' := [(h0, .inr (3, [.int 2, .ref ta, .int zs, .int po, .int fa, .ref da, .ref ra, .ref la, .long we, .long le, .int pk, .int pm, .int co, .ref pa, .int pl, .ref xa, .ref ya, .int mb, .ref ea, .ref wa])), (ea, .inl (cI, 24, .inl ef)), (wa, .inl (cI, 6, .inl wf))]) [0, 1, 2] (by decide) rfl
                      exact W.iret (v := 0) hx hb hr (fun t ht hW => ⟨_, _, rfl, ⟨by first | rfl | (simp only [e_0, e_1, e_2, e_3, e_4]; try rfl), by first | rfl | (simp only [e_0, e_1, e_2, e_3, e_4]; try rfl)⟩, by rw [ht]; exact hP9, hD9, hS.F ht⟩) hS.2.2 dR_member_95
                · exact absurd c_32 (by decide)

def kR_keeps_180a_0 (rf : Nat → Int32) (xf : Nat → Int32) (yf : Nat → Int32) (pl : Int32) (kind : Int32) (w : Int32) (h : Int32) (wk : Int32) (wa1 : Int32) (K_80 : (Int32 → Int32)) (K_165 : (Int32 → Int32)) : Nat → Int32 → Int32
  | 0, _ => default
  | n_180 + 1, wb => if pl ≤ wb then (K_165 (wa1 + 1)) else (if ((fR_space rf kind (4)) * (fR_space rf kind (4))) ≤ (((((xf wa1.toNatClampNeg) - (xf wb.toNatClampNeg)).toInt64) * (((xf wa1.toNatClampNeg) - (xf wb.toNatClampNeg)).toInt64)) + ((((yf wa1.toNatClampNeg) - (yf wb.toNatClampNeg)).toInt64) * (((yf wa1.toNatClampNeg) - (yf wb.toNatClampNeg)).toInt64))) then (kR_keeps_180a_0 rf xf yf pl kind w h wk wa1 K_80 K_165 n_180 (wb + 1)) else ((100 + (32 * wa1)) + wb))
def kR_keeps_180a_1 (rf : Nat → Int32) (xf : Nat → Int32) (yf : Nat → Int32) (pl : Int32) (kind : Int32) (w : Int32) (h : Int32) (wk : Int32) (wa1 : Int32) (K_80 : (Int32 → Int32)) (K_165 : (Int32 → Int32)) : Nat → Int32 → Int32
  | 0, _ => default
  | n_180 + 1, wb => if pl ≤ wb then (K_165 (wa1 + 1)) else (if ((fR_space rf kind (4)) * (fR_space rf kind (4))) ≤ (((((xf wa1.toNatClampNeg) - (xf wb.toNatClampNeg)).toInt64) * (((xf wa1.toNatClampNeg) - (xf wb.toNatClampNeg)).toInt64)) + ((((yf wa1.toNatClampNeg) - (yf wb.toNatClampNeg)).toInt64) * (((yf wa1.toNatClampNeg) - (yf wb.toNatClampNeg)).toInt64))) then (kR_keeps_180a_1 rf xf yf pl kind w h wk wa1 K_80 K_165 n_180 (wb + 1)) else ((0)))
def kR_keeps_165a_0 (rf : Nat → Int32) (xf : Nat → Int32) (yf : Nat → Int32) (pl : Int32) (kind : Int32) (w : Int32) (h : Int32) (wk : Int32) (K_80 : (Int32 → Int32)) : Nat → Int32 → Int32
  | 0, _ => default
  | n_165 + 1, wa1 => if pl ≤ wa1 then ((0)) else (kR_keeps_180a_0 rf xf yf pl kind w h wk wa1 K_80 (fun wa1 => kR_keeps_165a_0 rf xf yf pl kind w h wk K_80 n_165 wa1) (wa_fuel wa1) (wa1 + 1))
def kR_keeps_165a_1 (rf : Nat → Int32) (xf : Nat → Int32) (yf : Nat → Int32) (pl : Int32) (kind : Int32) (w : Int32) (h : Int32) (wk : Int32) (K_80 : (Int32 → Int32)) : Nat → Int32 → Int32
  | 0, _ => default
  | n_165 + 1, wa1 => if pl ≤ wa1 then ((0)) else (kR_keeps_180a_1 rf xf yf pl kind w h wk wa1 K_80 (fun wa1 => kR_keeps_165a_1 rf xf yf pl kind w h wk K_80 n_165 wa1) (wa_fuel wa1) (wa1 + 1))
def kR_keeps_80a_0 (rf : Nat → Int32) (xf : Nat → Int32) (yf : Nat → Int32) (pl : Int32) (kind : Int32) (w : Int32) (h : Int32) : Nat → Int32 → Int32
  | 0, _ => default
  | n_80 + 1, wk => if pl ≤ wk then (kR_keeps_165a_0 rf xf yf pl kind w h wk (fun wk => kR_keeps_80a_0 rf xf yf pl kind w h n_80 wk) 33 (0)) else (if ((xf wk.toNatClampNeg).toInt64) < (fR_space rf kind (3)) then (1 + wk) else (if (w.toInt64 - (fR_space rf kind (3))) < ((xf wk.toNatClampNeg).toInt64) then (1 + wk) else (if ((yf wk.toNatClampNeg).toInt64) < (fR_space rf kind (2)) then (1 + wk) else (if ((yf wk.toNatClampNeg).toInt64) ≤ (h.toInt64 - (fR_space rf kind (2))) then (kR_keeps_80a_0 rf xf yf pl kind w h n_80 (wk + 1)) else (1 + wk)))))
def kR_keeps_80a_1 (rf : Nat → Int32) (xf : Nat → Int32) (yf : Nat → Int32) (pl : Int32) (kind : Int32) (w : Int32) (h : Int32) : Nat → Int32 → Int32
  | 0, _ => default
  | n_80 + 1, wk => if pl ≤ wk then (kR_keeps_165a_1 rf xf yf pl kind w h wk (fun wk => kR_keeps_80a_1 rf xf yf pl kind w h n_80 wk) 33 (0)) else (if ((xf wk.toNatClampNeg).toInt64) < (fR_space rf kind (3)) then ((0)) else (if (w.toInt64 - (fR_space rf kind (3))) < ((xf wk.toNatClampNeg).toInt64) then ((0)) else (if ((yf wk.toNatClampNeg).toInt64) < (fR_space rf kind (2)) then ((0)) else (if ((yf wk.toNatClampNeg).toInt64) ≤ (h.toInt64 - (fR_space rf kind (2))) then (kR_keeps_80a_1 rf xf yf pl kind w h n_80 (wk + 1)) else ((0))))))
def gR_keeps (rf : Nat → Int32) (xf : Nat → Int32) (yf : Nat → Int32) (pl : Int32) (kind : Int32) (w : Int32) (h : Int32) : Int32 := if (fR_isFour kind) = true then (if (fR_isIn w.toInt64 (1) (100000)) = true then (if (fR_isIn h.toInt64 (1) (100000)) = true then (kR_keeps_80a_0 rf xf yf pl kind w h 33 (0)) else ((0))) else ((0))) else ((0))
def gR_keeps_0 (rf : Nat → Int32) (xf : Nat → Int32) (yf : Nat → Int32) (pl : Int32) (kind : Int32) (w : Int32) (h : Int32) : Int32 := if (fR_isFour kind) = true then (if (fR_isIn w.toInt64 (1) (100000)) = true then (if (fR_isIn h.toInt64 (1) (100000)) = true then (kR_keeps_80a_1 rf xf yf pl kind w h 33 (0)) else ((2))) else ((2))) else ((1))
set_option maxHeartbeats 4000000 in
set_option maxRecDepth 100000 in
theorem cR_keeps (l : Launch) {s0 : State} {dC : Nat → ClassId} {dI : Nat → Nat → Nat} {cI cC cL cO : ClassId} (E : xb_Env l s0 dC dI (xtys cI cC cL cO)) (sz : Nat) (h0 : Nat) (ra : Nat) (xa : Nat) (ya : Nat) (th : Int32) (ta : Nat) (zs : Int32) (po : Int32) (fa : Int32) (da : Nat) (la : Nat) (we : Int64) (le : Int64) (pk : Int32) (pm : Int32) (co : Int32) (pa : Nat) (pl : Int32) (mb : Int32) (ea : Nat) (wa : Nat) (rf : Nat → Int32) (xf : Nat → Int32) (yf : Nat → Int32) (kind : Int32) (w : Int32) (h : Int32) (hq : pl ≤ 32) : Met l yR_keeps [.code yR_keeps bR_keeps 16 (some (.int))] ({ frames := 1, cells := 0, slots := 0, locals := 25 }) (va_Pc [.ref h0, .int kind, .int w, .int h] (fun U => xb_At s0 U ∧ U.heap.size = sz ∧ va_P (dC, dI) classes [(h0, .inr (3, [.int th, .ref ta, .int zs, .int po, .int fa, .ref da, .ref ra, .ref la, .long we, .long le, .int pk, .int pm, .int co, .ref pa, .int pl, .ref xa, .ref ya, .int mb, .ref ea, .ref wa])), (ra, .inl (cI, 28, .inl rf)), (xa, .inl (cI, 32, .inl xf)), (ya, .inl (cI, 32, .inl yf))] U.heap ∧ va_D (fun q => s0.heap.size ≤ q) [(h0, .inr (3, [.int th, .ref ta, .int zs, .int po, .int fa, .ref da, .ref ra, .ref la, .long we, .long le, .int pk, .int pm, .int co, .ref pa, .int pl, .ref xa, .ref ya, .int mb, .ref ea, .ref wa])), (ra, .inl (cI, 28, .inl rf)), (xa, .inl (cI, 32, .inl xf)), (ya, .inl (cI, 32, .inl yf))])) (xb_W (dC, dI) (fun v9 w9 => v9 = some (.int (gR_keeps rf xf yf pl kind w h)) ∧ w9 = [(h0, .inr (3, [.int (gR_keeps_0 rf xf yf pl kind w h), .ref ta, .int zs, .int po, .int fa, .ref da, .ref ra, .ref la, .long we, .long le, .int pk, .int pm, .int co, .ref pa, .int pl, .ref xa, .ref ya, .int mb, .ref ea, .ref wa])), (ra, .inl (cI, 28, .inl rf)), (xa, .inl (cI, 32, .inl xf)), (ya, .inl (cI, 32, .inl yf))]) (va_A [(h0, .inr (3, [.int th, .ref ta, .int zs, .int po, .int fa, .ref da, .ref ra, .ref la, .long we, .long le, .int pk, .int pm, .int co, .ref pa, .int pl, .ref xa, .ref ya, .int mb, .ref ea, .ref wa])), (ra, .inl (cI, 28, .inl rf)), (xa, .inl (cI, 32, .inl xf)), (ya, .inl (cI, 32, .inl yf))] sz)) 0 0 (va_A [(h0, .inr (3, [.int th, .ref ta, .int zs, .int po, .int fa, .ref da, .ref ra, .ref la, .long we, .long le, .int pk, .int pm, .int co, .ref pa, .int pl, .ref xa, .ref ya, .int mb, .ref ea, .ref wa])), (ra, .inl (cI, 28, .inl rf)), (xa, .inl (cI, 32, .inl xf)), (ya, .inl (cI, 32, .inl yf))] sz) := by
  refine Met.ofW (cc := bR_keeps) (maxL := 16) (ret := (some (.int))) (by decide) rfl ?_
  intro p e s m args below meth c s₁ B hml hv
  obtain ⟨rfl, hAt, hsz, hP, hD0⟩ := hv
  have hx := B.exec
  have hb := B.bytes
  have hr := B.returns
  have hts := xb_hts E hAt ([.ref h0, .int kind, .int w, .int h] : List Value).toArray
  have hown : s.vm.findClass "NailRulesModel" = some m.cls := findClass_of_methodNamed B.named
  have hlocks := B.notSynchronized
  have hK := xb_K E hAt
  subst hsz
  have hA0 := xb_A0 hAt hD0
  have hD := hD0.self (sz := s.heap.size)
  generalize hAe : va_A [(h0, .inr (3, [.int th, .ref ta, .int zs, .int po, .int fa, .ref da, .ref ra, .ref la, .long we, .long le, .int pk, .int pm, .int co, .ref pa, .int pl, .ref xa, .ref ya, .int mb, .ref ea, .ref wa])), (ra, .inl (cI, 28, .inl rf)), (xa, .inl (cI, 32, .inl xf)), (ya, .inl (cI, 32, .inl yf))] s.heap.size = A at hD hA0 ⊢
  have hA : ∀ q : Nat, s.heap.size ≤ q → A q := fun q h => by rw [← hAe]; exact Or.inr h
  have hS : va_S A s.heap s.heap [] := va_S.rf
  have hl := lv_entry ([.ref h0, .int kind, .int w, .int h]) (n := 16) (Nat.le_of_ble_eq_true rfl)
  rw [lg_entry_eq]
  generalize (lg_sl ([.ref h0, .int kind, .int w, .int h]) ++ List.replicate (16 - (lg_sl ([.ref h0, .int kind, .int w, .int h])).length) Slot.unset).toArray = ls at hl ⊢
  have hl : lv_has ls 16 [(0, .ref h0), (1, .int kind), (2, .int w), (3, .int h)] := hl
  refine lv_aload_n hx hb dR_keeps_0 rfl (lv_at hl 0 rfl) ?_
  refine lv_iload_n hx hb dR_keeps_1 rfl (lv_at hl 1 rfl) ?_
  refine xb_rd (W.runS (As := [.int kind]) (rest := [.ref h0]) ⟨hx, hb, hml, hown, hts⟩ (cR_isFour l E kind) (cwS 1 hts (xb_gi (List.forall_mem_cons.mpr ⟨xk_750, List.forall_mem_cons.mpr ⟨xk_751, List.forall_mem_cons.mpr ⟨xk_45, List.forall_mem_cons.mpr ⟨xk_752, fun _ h => absurd h List.not_mem_nil⟩⟩⟩⟩)) rfl rfl rfl (by decide +kernel) ⟨Nat.le_of_ble_eq_true rfl, Nat.le_of_ble_eq_true rfl⟩) ⟨fun _ _ _ _ q => q, fun U hU hW => ⟨rfl, xb_atS hAt hS hA0 hU hW, fun k q h => by simp at h⟩⟩ rfl rfl hl.1 rfl (lv_room (Nat.le_of_ble_eq_true rfl)) dR_keeps_2 ⟨Nat.zero_le _, Nat.zero_le _⟩) ?_
  refine lv_if_ne (tgt := 12) hx hb dR_keeps_5 (by decide) (fun c_1 => ?_) (fun c_1 => ?_)
  · have c_1 := xb_bi_t.mp c_1
    refine lv_iload_n hx hb dR_keeps_12 rfl (lv_at hl 2 rfl) ?_
    refine lv_i2l hx hb dR_keeps_13 rfl ?_
    refine lv_lconst (v := 1) hx hb dR_keeps_14 (by decide) ?_
    refine lv_ldc2 (v := 100000) hx hb hown (hts _ xk_791) dR_keeps_15 ?_
    refine xb_rd (W.runS (As := [.long w.toInt64, .long 1, .long 100000]) (rest := [.ref h0]) ⟨hx, hb, hml, hown, hts⟩ (cR_isIn l E w.toInt64 1 100000) (cwS 3 hts (xb_gi (List.forall_mem_cons.mpr ⟨xk_754, List.forall_mem_cons.mpr ⟨xk_755, List.forall_mem_cons.mpr ⟨xk_45, List.forall_mem_cons.mpr ⟨xk_756, fun _ h => absurd h List.not_mem_nil⟩⟩⟩⟩)) rfl rfl rfl (by decide +kernel) ⟨Nat.le_of_ble_eq_true rfl, Nat.le_of_ble_eq_true rfl⟩) ⟨fun _ _ _ _ q => q, fun U hU hW => ⟨rfl, xb_atS hAt hS hA0 hU hW, fun k q h => by simp at h⟩⟩ rfl rfl hl.1 rfl (lv_room (Nat.le_of_ble_eq_true rfl)) dR_keeps_18 ⟨Nat.zero_le _, Nat.zero_le _⟩) ?_
    refine lv_if_eq (tgt := 40) hx hb dR_keeps_21 (by decide) (fun c_2 => ?_) (fun c_2 => ?_)
    · have c_2 := xb_bi_f.mp c_2
      refine lv_iconst (v := 2) hx hb dR_keeps_40 (by decide) ?_
      refine va_put (D := (dC, dI)) (ci := 3) (v := .int 2) (ty := .int) (C := xR_R) (T := xF_R) (N := 20) hx hb hts xi_R xt_R xt_R_ok xn_R hown hK hP hD hS 0 rfl rfl 0 (by decide) (hts _ xk_646) (fun _ h9 => h9) rfl (by decide +kernel) rfl rfl (Nat.le_of_ble_eq_true rfl) dR_keeps_41 (fun H locs hP hD hS => ?_)
      have hP : va_P (dC, dI) classes [(h0, .inr (3, [.int 2, .ref ta, .int zs, .int po, .int fa, .ref da, .ref ra, .ref la, .long we, .long le, .int pk, .int pm, .int co, .ref pa, .int pl, .ref xa, .ref ya, .int mb, .ref ea, .ref wa])), (ra, .inl (cI, 28, .inl rf)), (xa, .inl (cI, 32, .inl xf)), (ya, .inl (cI, 32, .inl yf))] H := hP
      have hD : va_D A [(h0, .inr (3, [.int 2, .ref ta, .int zs, .int po, .int fa, .ref da, .ref ra, .ref la, .long we, .long le, .int pk, .int pm, .int co, .ref pa, .int pl, .ref xa, .ref ya, .int mb, .ref ea, .ref wa])), (ra, .inl (cI, 28, .inl rf)), (xa, .inl (cI, 32, .inl xf)), (ya, .inl (cI, 32, .inl yf))] := hD
      refine lv_aload_n hx hb dR_keeps_44 rfl (lv_at hl 0 rfl) ?_
      refine va_get (D := (dC, dI)) (ci := 3) (v := .int 2) (C := xR_R) (T := xF_R) (N := 20) hx hb hts xi_R hown hK hP 0 rfl rfl 0 (by decide) (hts _ xk_646) (fun _ h9 => h9) rfl dR_keeps_45 ?_
      refine lv_if_le (tgt := 53) hx hb dR_keeps_48 (by decide) (fun c_3 => ?_) (fun c_3 => ?_)
      · exact absurd c_3 (by decide)
      · refine lv_iconst (v := 0) hx hb dR_keeps_51 (by decide) ?_
        have e_0 : gR_keeps rf xf yf pl kind w h = (0 : Int32) := (if_pos c_1).trans ((if_neg c_2).trans (rfl))
        have e_1 : gR_keeps_0 rf xf yf pl kind w h = (2 : Int32) := (if_pos c_1).trans ((if_neg c_2).trans (rfl))
        have hP9 := hP.sub (ws' := [(h0, .inr (3, [.int 2, .ref ta, .int zs, .int po, .int fa, .ref da, .ref ra, .ref la, .long we, .long le, .int pk, .int pm, .int co, .ref pa, .int pl, .ref xa, .ref ya, .int mb, .ref ea, .ref wa])), (ra, .inl (cI, 28, .inl rf)), (xa, .inl (cI, 32, .inl xf)), (ya, .inl (cI, 32, .inl yf))]) [0, 1, 2, 3] rfl
        have hD9 := hD.sub (ws' := [(h0, .inr (3, [.int 2, .ref ta, .int zs, .int po, .int fa, .ref da, .ref ra, .ref la, .long we, .long le, .int pk, .int pm, .int co, .ref pa, .int pl, .ref xa, .ref ya, .int mb, .ref ea, .ref wa])), (ra, .inl (cI, 28, .inl rf)), (xa, .inl (cI, 32, .inl xf)), (ya, .inl (cI, 32, .inl yf))]) [0, 1, 2, 3] (by decide) rfl
        exact W.iret (v := 0) hx hb hr (fun t ht hW => ⟨_, _, rfl, ⟨by first | rfl | (simp only [e_0, e_1]; try rfl), by first | rfl | (simp only [e_0, e_1]; try rfl)⟩, by rw [ht]; exact hP9, hD9, hS.F ht⟩) hS.2.2 dR_keeps_52
    · have c_2 := xb_bi_t.mp c_2
      refine lv_iload_n hx hb dR_keeps_24 rfl (lv_at hl 3 rfl) ?_
      refine lv_i2l hx hb dR_keeps_25 rfl ?_
      refine lv_lconst (v := 1) hx hb dR_keeps_26 (by decide) ?_
      refine lv_ldc2 (v := 100000) hx hb hown (hts _ xk_791) dR_keeps_27 ?_
      refine xb_rd (W.runS (As := [.long h.toInt64, .long 1, .long 100000]) (rest := [.ref h0]) ⟨hx, hb, hml, hown, hts⟩ (cR_isIn l E h.toInt64 1 100000) (cwS 3 hts (xb_gi (List.forall_mem_cons.mpr ⟨xk_754, List.forall_mem_cons.mpr ⟨xk_755, List.forall_mem_cons.mpr ⟨xk_45, List.forall_mem_cons.mpr ⟨xk_756, fun _ h => absurd h List.not_mem_nil⟩⟩⟩⟩)) rfl rfl rfl (by decide +kernel) ⟨Nat.le_of_ble_eq_true rfl, Nat.le_of_ble_eq_true rfl⟩) ⟨fun _ _ _ _ q => q, fun U hU hW => ⟨rfl, xb_atS hAt hS hA0 hU hW, fun k q h => by simp at h⟩⟩ rfl rfl hl.1 rfl (lv_room (Nat.le_of_ble_eq_true rfl)) dR_keeps_30 ⟨Nat.zero_le _, Nat.zero_le _⟩) ?_
      refine lv_if_eq (tgt := 40) hx hb dR_keeps_33 (by decide) (fun c_4 => ?_) (fun c_4 => ?_)
      · have c_4 := xb_bi_f.mp c_4
        refine lv_iconst (v := 2) hx hb dR_keeps_40 (by decide) ?_
        refine va_put (D := (dC, dI)) (ci := 3) (v := .int 2) (ty := .int) (C := xR_R) (T := xF_R) (N := 20) hx hb hts xi_R xt_R xt_R_ok xn_R hown hK hP hD hS 0 rfl rfl 0 (by decide) (hts _ xk_646) (fun _ h9 => h9) rfl (by decide +kernel) rfl rfl (Nat.le_of_ble_eq_true rfl) dR_keeps_41 (fun H locs hP hD hS => ?_)
        have hP : va_P (dC, dI) classes [(h0, .inr (3, [.int 2, .ref ta, .int zs, .int po, .int fa, .ref da, .ref ra, .ref la, .long we, .long le, .int pk, .int pm, .int co, .ref pa, .int pl, .ref xa, .ref ya, .int mb, .ref ea, .ref wa])), (ra, .inl (cI, 28, .inl rf)), (xa, .inl (cI, 32, .inl xf)), (ya, .inl (cI, 32, .inl yf))] H := hP
        have hD : va_D A [(h0, .inr (3, [.int 2, .ref ta, .int zs, .int po, .int fa, .ref da, .ref ra, .ref la, .long we, .long le, .int pk, .int pm, .int co, .ref pa, .int pl, .ref xa, .ref ya, .int mb, .ref ea, .ref wa])), (ra, .inl (cI, 28, .inl rf)), (xa, .inl (cI, 32, .inl xf)), (ya, .inl (cI, 32, .inl yf))] := hD
        refine lv_aload_n hx hb dR_keeps_44 rfl (lv_at hl 0 rfl) ?_
        refine va_get (D := (dC, dI)) (ci := 3) (v := .int 2) (C := xR_R) (T := xF_R) (N := 20) hx hb hts xi_R hown hK hP 0 rfl rfl 0 (by decide) (hts _ xk_646) (fun _ h9 => h9) rfl dR_keeps_45 ?_
        refine lv_if_le (tgt := 53) hx hb dR_keeps_48 (by decide) (fun c_5 => ?_) (fun c_5 => ?_)
        · exact absurd c_5 (by decide)
        · refine lv_iconst (v := 0) hx hb dR_keeps_51 (by decide) ?_
          have e_0 : gR_keeps rf xf yf pl kind w h = (0 : Int32) := (if_pos c_1).trans ((if_pos c_2).trans ((if_neg c_4).trans (rfl)))
          have e_1 : gR_keeps_0 rf xf yf pl kind w h = (2 : Int32) := (if_pos c_1).trans ((if_pos c_2).trans ((if_neg c_4).trans (rfl)))
          have hP9 := hP.sub (ws' := [(h0, .inr (3, [.int 2, .ref ta, .int zs, .int po, .int fa, .ref da, .ref ra, .ref la, .long we, .long le, .int pk, .int pm, .int co, .ref pa, .int pl, .ref xa, .ref ya, .int mb, .ref ea, .ref wa])), (ra, .inl (cI, 28, .inl rf)), (xa, .inl (cI, 32, .inl xf)), (ya, .inl (cI, 32, .inl yf))]) [0, 1, 2, 3] rfl
          have hD9 := hD.sub (ws' := [(h0, .inr (3, [.int 2, .ref ta, .int zs, .int po, .int fa, .ref da, .ref ra, .ref la, .long we, .long le, .int pk, .int pm, .int co, .ref pa, .int pl, .ref xa, .ref ya, .int mb, .ref ea, .ref wa])), (ra, .inl (cI, 28, .inl rf)), (xa, .inl (cI, 32, .inl xf)), (ya, .inl (cI, 32, .inl yf))]) [0, 1, 2, 3] (by decide) rfl
          exact W.iret (v := 0) hx hb hr (fun t ht hW => ⟨_, _, rfl, ⟨by first | rfl | (simp only [e_0, e_1]; try rfl), by first | rfl | (simp only [e_0, e_1]; try rfl)⟩, by rw [ht]; exact hP9, hD9, hS.F ht⟩) hS.2.2 dR_keeps_52
      · have c_4 := xb_bi_t.mp c_4
        refine lv_iconst (v := 0) hx hb dR_keeps_36 (by decide) ?_
        refine lv_goto (tgt := 41) hx hb dR_keeps_37 (by decide) ?_
        refine va_put (D := (dC, dI)) (ci := 3) (v := .int 0) (ty := .int) (C := xR_R) (T := xF_R) (N := 20) hx hb hts xi_R xt_R xt_R_ok xn_R hown hK hP hD hS 0 rfl rfl 0 (by decide) (hts _ xk_646) (fun _ h9 => h9) rfl (by decide +kernel) rfl rfl (Nat.le_of_ble_eq_true rfl) dR_keeps_41 (fun H locs hP hD hS => ?_)
        have hP : va_P (dC, dI) classes [(h0, .inr (3, [.int 0, .ref ta, .int zs, .int po, .int fa, .ref da, .ref ra, .ref la, .long we, .long le, .int pk, .int pm, .int co, .ref pa, .int pl, .ref xa, .ref ya, .int mb, .ref ea, .ref wa])), (ra, .inl (cI, 28, .inl rf)), (xa, .inl (cI, 32, .inl xf)), (ya, .inl (cI, 32, .inl yf))] H := hP
        have hD : va_D A [(h0, .inr (3, [.int 0, .ref ta, .int zs, .int po, .int fa, .ref da, .ref ra, .ref la, .long we, .long le, .int pk, .int pm, .int co, .ref pa, .int pl, .ref xa, .ref ya, .int mb, .ref ea, .ref wa])), (ra, .inl (cI, 28, .inl rf)), (xa, .inl (cI, 32, .inl xf)), (ya, .inl (cI, 32, .inl yf))] := hD
        refine lv_aload_n hx hb dR_keeps_44 rfl (lv_at hl 0 rfl) ?_
        refine va_get (D := (dC, dI)) (ci := 3) (v := .int 0) (C := xR_R) (T := xF_R) (N := 20) hx hb hts xi_R hown hK hP 0 rfl rfl 0 (by decide) (hts _ xk_646) (fun _ h9 => h9) rfl dR_keeps_45 ?_
        refine lv_if_le (tgt := 53) hx hb dR_keeps_48 (by decide) (fun c_6 => ?_) (fun c_6 => ?_)
        · refine lv_aload_n hx hb dR_keeps_53 rfl (lv_at hl 0 rfl) ?_
          refine lv_iload_n hx hb dR_keeps_54 rfl (lv_at hl 1 rfl) ?_
          refine lv_iconst (v := 3) hx hb dR_keeps_55 (by decide) ?_
          refine xb_rd (W.runV (C := "NailRulesModel") (As := [.int kind, .int 3]) (rest := []) ⟨hx, hb, hml, hown, hts⟩ (cR_space l E h0 ([.int 0, .ref ta, .int zs, .int po, .int fa, .ref da, .ref ra, .ref la, .long we, .long le, .int pk, .int pm, .int co, .ref pa, .int pl, .ref xa, .ref ya, .int mb, .ref ea, .ref wa]) ra rf kind 3 rfl (xp_rul0 (by assumption)) (xp_rulN 3 (by decide) (by assumption))) (cwV 2 hts (xb_gi (List.forall_mem_cons.mpr ⟨xk_792, List.forall_mem_cons.mpr ⟨xk_794, List.forall_mem_cons.mpr ⟨xk_36, List.forall_mem_cons.mpr ⟨xk_45, List.forall_mem_cons.mpr ⟨xk_795, fun _ h => absurd h List.not_mem_nil⟩⟩⟩⟩⟩)) rfl rfl rfl (by decide +kernel) ⟨Nat.le_of_ble_eq_true rfl, Nat.le_of_ble_eq_true rfl⟩) ⟨fun _ _ _ _ q => q, va_recv hK hP (ci := 3) (q0 := 0) rfl rfl, fun U hU hW => ⟨rfl, xb_atS hAt hS hA0 hU hW, by rw [hU]; exact hP.sub (ws' := [(h0, .inr (3, [.int 0, .ref ta, .int zs, .int po, .int fa, .ref da, .ref ra, .ref la, .long we, .long le, .int pk, .int pm, .int co, .ref pa, .int pl, .ref xa, .ref ya, .int mb, .ref ea, .ref wa])), (ra, .inl (cI, 28, .inl rf))]) [0, 1] rfl⟩⟩ rfl rfl hl.1 rfl (lv_room (Nat.le_of_ble_eq_true rfl)) dR_keeps_56 ⟨Nat.zero_le _, Nat.zero_le _⟩) ?_
          refine lv_lstore (lv' := [(4, .long (fR_space rf kind (3))), (0, .ref h0), (1, .int kind), (2, .int w), (3, .int h)]) hx hb dR_keeps_59 hl (by decide) rfl (fun ls hl => ?_)
          refine lv_aload_n hx hb dR_keeps_61 rfl (lv_at hl 1 rfl) ?_
          refine lv_iload_n hx hb dR_keeps_62 rfl (lv_at hl 2 rfl) ?_
          refine lv_iconst (v := 2) hx hb dR_keeps_63 (by decide) ?_
          refine xb_rd (W.runV (C := "NailRulesModel") (As := [.int kind, .int 2]) (rest := []) ⟨hx, hb, hml, hown, hts⟩ (cR_space l E h0 ([.int 0, .ref ta, .int zs, .int po, .int fa, .ref da, .ref ra, .ref la, .long we, .long le, .int pk, .int pm, .int co, .ref pa, .int pl, .ref xa, .ref ya, .int mb, .ref ea, .ref wa]) ra rf kind 2 rfl (xp_rul0 (by assumption)) (xp_rulN 2 (by decide) (by assumption))) (cwV 2 hts (xb_gi (List.forall_mem_cons.mpr ⟨xk_792, List.forall_mem_cons.mpr ⟨xk_794, List.forall_mem_cons.mpr ⟨xk_36, List.forall_mem_cons.mpr ⟨xk_45, List.forall_mem_cons.mpr ⟨xk_795, fun _ h => absurd h List.not_mem_nil⟩⟩⟩⟩⟩)) rfl rfl rfl (by decide +kernel) ⟨Nat.le_of_ble_eq_true rfl, Nat.le_of_ble_eq_true rfl⟩) ⟨fun _ _ _ _ q => q, va_recv hK hP (ci := 3) (q0 := 0) rfl rfl, fun U hU hW => ⟨rfl, xb_atS hAt hS hA0 hU hW, by rw [hU]; exact hP.sub (ws' := [(h0, .inr (3, [.int 0, .ref ta, .int zs, .int po, .int fa, .ref da, .ref ra, .ref la, .long we, .long le, .int pk, .int pm, .int co, .ref pa, .int pl, .ref xa, .ref ya, .int mb, .ref ea, .ref wa])), (ra, .inl (cI, 28, .inl rf))]) [0, 1] rfl⟩⟩ rfl rfl hl.1 rfl (lv_room (Nat.le_of_ble_eq_true rfl)) dR_keeps_64 ⟨Nat.zero_le _, Nat.zero_le _⟩) ?_
          refine lv_lstore (lv' := [(6, .long (fR_space rf kind (2))), (4, .long (fR_space rf kind (3))), (0, .ref h0), (1, .int kind), (2, .int w), (3, .int h)]) hx hb dR_keeps_67 hl (by decide) rfl (fun ls hl => ?_)
          refine lv_aload_n hx hb dR_keeps_69 rfl (lv_at hl 2 rfl) ?_
          refine lv_iload_n hx hb dR_keeps_70 rfl (lv_at hl 3 rfl) ?_
          refine lv_iconst (v := 4) hx hb dR_keeps_71 (by decide) ?_
          refine xb_rd (W.runV (C := "NailRulesModel") (As := [.int kind, .int 4]) (rest := []) ⟨hx, hb, hml, hown, hts⟩ (cR_space l E h0 ([.int 0, .ref ta, .int zs, .int po, .int fa, .ref da, .ref ra, .ref la, .long we, .long le, .int pk, .int pm, .int co, .ref pa, .int pl, .ref xa, .ref ya, .int mb, .ref ea, .ref wa]) ra rf kind 4 rfl (xp_rul0 (by assumption)) (xp_rulN 4 (by decide) (by assumption))) (cwV 2 hts (xb_gi (List.forall_mem_cons.mpr ⟨xk_792, List.forall_mem_cons.mpr ⟨xk_794, List.forall_mem_cons.mpr ⟨xk_36, List.forall_mem_cons.mpr ⟨xk_45, List.forall_mem_cons.mpr ⟨xk_795, fun _ h => absurd h List.not_mem_nil⟩⟩⟩⟩⟩)) rfl rfl rfl (by decide +kernel) ⟨Nat.le_of_ble_eq_true rfl, Nat.le_of_ble_eq_true rfl⟩) ⟨fun _ _ _ _ q => q, va_recv hK hP (ci := 3) (q0 := 0) rfl rfl, fun U hU hW => ⟨rfl, xb_atS hAt hS hA0 hU hW, by rw [hU]; exact hP.sub (ws' := [(h0, .inr (3, [.int 0, .ref ta, .int zs, .int po, .int fa, .ref da, .ref ra, .ref la, .long we, .long le, .int pk, .int pm, .int co, .ref pa, .int pl, .ref xa, .ref ya, .int mb, .ref ea, .ref wa])), (ra, .inl (cI, 28, .inl rf))]) [0, 1] rfl⟩⟩ rfl rfl hl.1 rfl (lv_room (Nat.le_of_ble_eq_true rfl)) dR_keeps_72 ⟨Nat.zero_le _, Nat.zero_le _⟩) ?_
          refine lv_lstore (lv' := [(8, .long (fR_space rf kind (4))), (6, .long (fR_space rf kind (2))), (4, .long (fR_space rf kind (3))), (0, .ref h0), (1, .int kind), (2, .int w), (3, .int h)]) hx hb dR_keeps_75 hl (by decide) rfl (fun ls hl => ?_)
          refine lv_iconst (v := 0) hx hb dR_keeps_77 (by decide) ?_
          refine lv_istore (lv' := [(10, .int 0), (8, .long (fR_space rf kind (4))), (6, .long (fR_space rf kind (2))), (4, .long (fR_space rf kind (3))), (0, .ref h0), (1, .int kind), (2, .int w), (3, .int h)]) hx hb dR_keeps_78 hl (by decide) rfl (fun ls hl => ?_)
          have lp_80 : ∀ (n_80 : Nat) (wk : Int32), (xl_c 0 32 n_80 wk) → gR_keeps rf xf yf pl kind w h = kR_keeps_80a_0 rf xf yf pl kind w h n_80 wk → gR_keeps_0 rf xf yf pl kind w h = kR_keeps_80a_1 rf xf yf pl kind w h n_80 wk → ∀ (H : Heap) (locs : List Loc), va_P (dC, dI) classes [(h0, .inr (3, [.int 0, .ref ta, .int zs, .int po, .int fa, .ref da, .ref ra, .ref la, .long we, .long le, .int pk, .int pm, .int co, .ref pa, .int pl, .ref xa, .ref ya, .int mb, .ref ea, .ref wa])), (ra, .inl (cI, 28, .inl rf)), (xa, .inl (cI, 32, .inl xf)), (ya, .inl (cI, 32, .inl yf))] H → va_D A [(h0, .inr (3, [.int 0, .ref ta, .int zs, .int po, .int fa, .ref da, .ref ra, .ref la, .long we, .long le, .int pk, .int pm, .int co, .ref pa, .int pl, .ref xa, .ref ya, .int mb, .ref ea, .ref wa])), (ra, .inl (cI, 28, .inl rf)), (xa, .inl (cI, 32, .inl xf)), (ya, .inl (cI, 32, .inl yf))] → va_S A s.heap H locs → ∀ ls : Array Slot, lv_has ls 16 [(10, .int wk), (8, .long (fR_space rf kind (4))), (6, .long (fR_space rf kind (2))), (4, .long (fR_space rf kind (3))), (0, .ref h0), (1, .int kind), (2, .int w), (3, .int h)] → W p l e (headSpec [.code yR_keeps bR_keeps 16 (some (.int))] ({ frames := 1, cells := 0, slots := 0, locals := 25 })).room s m ([.ref h0, .int kind, .int w, .int h] : List Value).toArray below meth c H locs 0 0 (MQ below (xb_W (dC, dI) (fun v9 w9 => v9 = some (.int (gR_keeps rf xf yf pl kind w h)) ∧ w9 = [(h0, .inr (3, [.int (gR_keeps_0 rf xf yf pl kind w h), .ref ta, .int zs, .int po, .int fa, .ref da, .ref ra, .ref la, .long we, .long le, .int pk, .int pm, .int co, .ref pa, .int pl, .ref xa, .ref ya, .int mb, .ref ea, .ref wa])), (ra, .inl (cI, 28, .inl rf)), (xa, .inl (cI, 32, .inl xf)), (ya, .inl (cI, 32, .inl yf))]) A) ([.ref h0, .int kind, .int w, .int h] : List Value).toArray s 0 0 A) (F0 m 80 ls []) := by
            intro n_80
            induction n_80 with
            | zero =>
              intro wk hinv_80
              exact xl_0 hinv_80
            | succ n_80 ih_80 =>
              intro wk hinv_80 hres_80_0 hres_80_1 H locs hP hD hS ls hl
              refine lv_iload hx hb dR_keeps_80 (lv_at hl 0 rfl) ?_
              refine lv_aload_n hx hb dR_keeps_82 rfl (lv_at hl 4 rfl) ?_
              refine va_get (D := (dC, dI)) (ci := 3) (v := .int pl) (C := xR_R) (T := xF_R) (N := 20) hx hb hts xi_R hown hK hP 0 rfl rfl 14 (by decide) (hts _ xk_660) (fun _ h9 => h9) rfl dR_keeps_83 ?_
              refine lv_icmp_ge (tgt := 162) hx hb dR_keeps_86 (by decide) (fun c_10 => ?_) (fun c_10 => ?_)
              · refine lv_iconst (v := 0) hx hb dR_keeps_162 (by decide) ?_
                refine lv_istore (lv' := [(10, .int 0), (8, .long (fR_space rf kind (4))), (6, .long (fR_space rf kind (2))), (4, .long (fR_space rf kind (3))), (0, .ref h0), (1, .int kind), (2, .int w), (3, .int h)]) hx hb dR_keeps_163 hl (by decide) rfl (fun ls hl => ?_)
                have lp_165 : ∀ (n_165 : Nat) (wa1 : Int32), (xl_c 0 32 n_165 wa1) → gR_keeps rf xf yf pl kind w h = kR_keeps_165a_0 rf xf yf pl kind w h wk (fun wk => kR_keeps_80a_0 rf xf yf pl kind w h n_80 wk) n_165 wa1 → gR_keeps_0 rf xf yf pl kind w h = kR_keeps_165a_1 rf xf yf pl kind w h wk (fun wk => kR_keeps_80a_1 rf xf yf pl kind w h n_80 wk) n_165 wa1 → ∀ (H : Heap) (locs : List Loc), va_P (dC, dI) classes [(h0, .inr (3, [.int 0, .ref ta, .int zs, .int po, .int fa, .ref da, .ref ra, .ref la, .long we, .long le, .int pk, .int pm, .int co, .ref pa, .int pl, .ref xa, .ref ya, .int mb, .ref ea, .ref wa])), (ra, .inl (cI, 28, .inl rf)), (xa, .inl (cI, 32, .inl xf)), (ya, .inl (cI, 32, .inl yf))] H → va_D A [(h0, .inr (3, [.int 0, .ref ta, .int zs, .int po, .int fa, .ref da, .ref ra, .ref la, .long we, .long le, .int pk, .int pm, .int co, .ref pa, .int pl, .ref xa, .ref ya, .int mb, .ref ea, .ref wa])), (ra, .inl (cI, 28, .inl rf)), (xa, .inl (cI, 32, .inl xf)), (ya, .inl (cI, 32, .inl yf))] → va_S A s.heap H locs → ∀ ls : Array Slot, lv_has ls 16 [(10, .int wa1), (8, .long (fR_space rf kind (4))), (6, .long (fR_space rf kind (2))), (4, .long (fR_space rf kind (3))), (0, .ref h0), (1, .int kind), (2, .int w), (3, .int h)] → W p l e (headSpec [.code yR_keeps bR_keeps 16 (some (.int))] ({ frames := 1, cells := 0, slots := 0, locals := 25 })).room s m ([.ref h0, .int kind, .int w, .int h] : List Value).toArray below meth c H locs 0 0 (MQ below (xb_W (dC, dI) (fun v9 w9 => v9 = some (.int (gR_keeps rf xf yf pl kind w h)) ∧ w9 = [(h0, .inr (3, [.int (gR_keeps_0 rf xf yf pl kind w h), .ref ta, .int zs, .int po, .int fa, .ref da, .ref ra, .ref la, .long we, .long le, .int pk, .int pm, .int co, .ref pa, .int pl, .ref xa, .ref ya, .int mb, .ref ea, .ref wa])), (ra, .inl (cI, 28, .inl rf)), (xa, .inl (cI, 32, .inl xf)), (ya, .inl (cI, 32, .inl yf))]) A) ([.ref h0, .int kind, .int w, .int h] : List Value).toArray s 0 0 A) (F0 m 165 ls []) := by
                  intro n_165
                  induction n_165 with
                  | zero =>
                    intro wa1 hinv_165
                    exact xl_0 hinv_165
                  | succ n_165 ih_165 =>
                    intro wa1 hinv_165 hres_165_0 hres_165_1 H locs hP hD hS ls hl
                    refine lv_iload hx hb dR_keeps_165 (lv_at hl 0 rfl) ?_
                    refine lv_aload_n hx hb dR_keeps_167 rfl (lv_at hl 4 rfl) ?_
                    refine va_get (D := (dC, dI)) (ci := 3) (v := .int pl) (C := xR_R) (T := xF_R) (N := 20) hx hb hts xi_R hown hK hP 0 rfl rfl 14 (by decide) (hts _ xk_660) (fun _ h9 => h9) rfl dR_keeps_168 ?_
                    refine lv_icmp_ge (tgt := 269) hx hb dR_keeps_171 (by decide) (fun c_11 => ?_) (fun c_11 => ?_)
                    · refine lv_iconst (v := 0) hx hb dR_keeps_269 (by decide) ?_
                      have e_0 : gR_keeps rf xf yf pl kind w h = (0 : Int32) := hres_165_0.trans ((if_pos c_11).trans (rfl))
                      have e_1 : gR_keeps_0 rf xf yf pl kind w h = (0 : Int32) := hres_165_1.trans ((if_pos c_11).trans (rfl))
                      have hP9 := hP.sub (ws' := [(h0, .inr (3, [.int 0, .ref ta, .int zs, .int po, .int fa, .ref da, .ref ra, .ref la, .long we, .long le, .int pk, .int pm, .int co, .ref pa, .int pl, .ref xa, .ref ya, .int mb, .ref ea, .ref wa])), (ra, .inl (cI, 28, .inl rf)), (xa, .inl (cI, 32, .inl xf)), (ya, .inl (cI, 32, .inl yf))]) [0, 1, 2, 3] rfl
                      have hD9 := hD.sub (ws' := [(h0, .inr (3, [.int 0, .ref ta, .int zs, .int po, .int fa, .ref da, .ref ra, .ref la, .long we, .long le, .int pk, .int pm, .int co, .ref pa, .int pl, .ref xa, .ref ya, .int mb, .ref ea, .ref wa])), (ra, .inl (cI, 28, .inl rf)), (xa, .inl (cI, 32, .inl xf)), (ya, .inl (cI, 32, .inl yf))]) [0, 1, 2, 3] (by decide) rfl
                      exact W.iret (v := 0) hx hb hr (fun t ht hW => ⟨_, _, rfl, ⟨by first | rfl | (simp only [e_0, e_1]; try rfl), by first | rfl | (simp only [e_0, e_1]; try rfl)⟩, by rw [ht]; exact hP9, hD9, hS.F ht⟩) hS.2.2 dR_keeps_270
                    · refine lv_iload hx hb dR_keeps_174 (lv_at hl 0 rfl) ?_
                      refine lv_iconst (v := 1) hx hb dR_keeps_176 (by decide) ?_
                      refine lv_iadd hx hb dR_keeps_177 ?_
                      refine lv_istore (lv' := [(11, .int (wa1 + 1)), (10, .int wa1), (8, .long (fR_space rf kind (4))), (6, .long (fR_space rf kind (2))), (4, .long (fR_space rf kind (3))), (0, .ref h0), (1, .int kind), (2, .int w), (3, .int h)]) hx hb dR_keeps_178 hl (by decide) rfl (fun ls hl => ?_)
                      have lp_180 : ∀ (n_180 : Nat) (wb : Int32), (xl_c 1 32 n_180 wb) → gR_keeps rf xf yf pl kind w h = kR_keeps_180a_0 rf xf yf pl kind w h wk wa1 (fun wk => kR_keeps_80a_0 rf xf yf pl kind w h n_80 wk) (fun wa1 => kR_keeps_165a_0 rf xf yf pl kind w h wk (fun wk => kR_keeps_80a_0 rf xf yf pl kind w h n_80 wk) n_165 wa1) n_180 wb → gR_keeps_0 rf xf yf pl kind w h = kR_keeps_180a_1 rf xf yf pl kind w h wk wa1 (fun wk => kR_keeps_80a_1 rf xf yf pl kind w h n_80 wk) (fun wa1 => kR_keeps_165a_1 rf xf yf pl kind w h wk (fun wk => kR_keeps_80a_1 rf xf yf pl kind w h n_80 wk) n_165 wa1) n_180 wb → ∀ (H : Heap) (locs : List Loc), va_P (dC, dI) classes [(h0, .inr (3, [.int 0, .ref ta, .int zs, .int po, .int fa, .ref da, .ref ra, .ref la, .long we, .long le, .int pk, .int pm, .int co, .ref pa, .int pl, .ref xa, .ref ya, .int mb, .ref ea, .ref wa])), (ra, .inl (cI, 28, .inl rf)), (xa, .inl (cI, 32, .inl xf)), (ya, .inl (cI, 32, .inl yf))] H → va_D A [(h0, .inr (3, [.int 0, .ref ta, .int zs, .int po, .int fa, .ref da, .ref ra, .ref la, .long we, .long le, .int pk, .int pm, .int co, .ref pa, .int pl, .ref xa, .ref ya, .int mb, .ref ea, .ref wa])), (ra, .inl (cI, 28, .inl rf)), (xa, .inl (cI, 32, .inl xf)), (ya, .inl (cI, 32, .inl yf))] → va_S A s.heap H locs → ∀ ls : Array Slot, lv_has ls 16 [(11, .int wb), (10, .int wa1), (8, .long (fR_space rf kind (4))), (6, .long (fR_space rf kind (2))), (4, .long (fR_space rf kind (3))), (0, .ref h0), (1, .int kind), (2, .int w), (3, .int h)] → W p l e (headSpec [.code yR_keeps bR_keeps 16 (some (.int))] ({ frames := 1, cells := 0, slots := 0, locals := 25 })).room s m ([.ref h0, .int kind, .int w, .int h] : List Value).toArray below meth c H locs 0 0 (MQ below (xb_W (dC, dI) (fun v9 w9 => v9 = some (.int (gR_keeps rf xf yf pl kind w h)) ∧ w9 = [(h0, .inr (3, [.int (gR_keeps_0 rf xf yf pl kind w h), .ref ta, .int zs, .int po, .int fa, .ref da, .ref ra, .ref la, .long we, .long le, .int pk, .int pm, .int co, .ref pa, .int pl, .ref xa, .ref ya, .int mb, .ref ea, .ref wa])), (ra, .inl (cI, 28, .inl rf)), (xa, .inl (cI, 32, .inl xf)), (ya, .inl (cI, 32, .inl yf))]) A) ([.ref h0, .int kind, .int w, .int h] : List Value).toArray s 0 0 A) (F0 m 180 ls []) := by
                        intro n_180
                        induction n_180 with
                        | zero =>
                          intro wb hinv_180
                          exact xl_0 hinv_180
                        | succ n_180 ih_180 =>
                          intro wb hinv_180 hres_180_0 hres_180_1 H locs hP hD hS ls hl
                          refine lv_iload hx hb dR_keeps_180 (lv_at hl 0 rfl) ?_
                          refine lv_aload_n hx hb dR_keeps_182 rfl (lv_at hl 5 rfl) ?_
                          refine va_get (D := (dC, dI)) (ci := 3) (v := .int pl) (C := xR_R) (T := xF_R) (N := 20) hx hb hts xi_R hown hK hP 0 rfl rfl 14 (by decide) (hts _ xk_660) (fun _ h9 => h9) rfl dR_keeps_183 ?_
                          refine lv_icmp_ge (tgt := 263) hx hb dR_keeps_186 (by decide) (fun c_13 => ?_) (fun c_13 => ?_)
                          · refine lv_iinc (v := wa1 + 1) (lv' := [(10, .int (wa1 + 1)), (11, .int wb), (8, .long (fR_space rf kind (4))), (6, .long (fR_space rf kind (2))), (4, .long (fR_space rf kind (3))), (0, .ref h0), (1, .int kind), (2, .int w), (3, .int h)]) hx hb dR_keeps_263 hl (k := 1) rfl rfl (by decide) rfl (fun ls hl => ?_)
                            refine lv_goto (tgt := 165) hx hb dR_keeps_266 (by decide) ?_
                            have v_inv : xl_c 0 32 n_165 (wa1 + 1) := xl_s3 hinv_165 (by decide) hq (by decide) c_11
                            have v_0 : gR_keeps rf xf yf pl kind w h = kR_keeps_165a_0 rf xf yf pl kind w h wk (fun wk => kR_keeps_80a_0 rf xf yf pl kind w h n_80 wk) n_165 (wa1 + 1) := hres_180_0.trans ((if_pos c_13).trans (rfl))
                            have v_1 : gR_keeps_0 rf xf yf pl kind w h = kR_keeps_165a_1 rf xf yf pl kind w h wk (fun wk => kR_keeps_80a_1 rf xf yf pl kind w h n_80 wk) n_165 (wa1 + 1) := hres_180_1.trans ((if_pos c_13).trans (rfl))
                            exact ih_165 (wa1 + 1) v_inv v_0 v_1 _ _ (hP.sub (ws' := [(h0, .inr (3, [.int 0, .ref ta, .int zs, .int po, .int fa, .ref da, .ref ra, .ref la, .long we, .long le, .int pk, .int pm, .int co, .ref pa, .int pl, .ref xa, .ref ya, .int mb, .ref ea, .ref wa])), (ra, .inl (cI, 28, .inl rf)), (xa, .inl (cI, 32, .inl xf)), (ya, .inl (cI, 32, .inl yf))]) [0, 1, 2, 3] rfl) (hD.sub (ws' := [(h0, .inr (3, [.int 0, .ref ta, .int zs, .int po, .int fa, .ref da, .ref ra, .ref la, .long we, .long le, .int pk, .int pm, .int co, .ref pa, .int pl, .ref xa, .ref ya, .int mb, .ref ea, .ref wa])), (ra, .inl (cI, 28, .inl rf)), (xa, .inl (cI, 32, .inl xf)), (ya, .inl (cI, 32, .inl yf))]) [0, 1, 2, 3] (by decide) rfl) hS ls (lv_sub hl [0, 2, 3, 4, 5, 6, 7, 8] rfl)
                          · refine lv_aload_n hx hb dR_keeps_189 rfl (lv_at hl 5 rfl) ?_
                            refine va_get (D := (dC, dI)) (ci := 3) (v := .ref xa) (C := xR_R) (T := xF_R) (N := 20) hx hb hts xi_R hown hK hP 0 rfl rfl 15 (by decide) (hts _ xk_661) (fun _ h9 => h9) rfl dR_keeps_190 ?_
                            refine lv_iload hx hb dR_keeps_193 (lv_at hl 1 rfl) ?_
                            have o_14 : vp_in wa1 32 := by exact xl_in hinv_165 (by decide) hq (by decide) (by assumption)
                            refine va_iald hx hb hK hP 2 0 rfl rfl o_14 dR_keeps_195 ?_
                            refine lv_aload_n hx hb dR_keeps_196 rfl (lv_at hl 5 rfl) ?_
                            refine va_get (D := (dC, dI)) (ci := 3) (v := .ref xa) (C := xR_R) (T := xF_R) (N := 20) hx hb hts xi_R hown hK hP 0 rfl rfl 15 (by decide) (hts _ xk_661) (fun _ h9 => h9) rfl dR_keeps_197 ?_
                            refine lv_iload hx hb dR_keeps_200 (lv_at hl 0 rfl) ?_
                            have o_15 : vp_in wb 32 := by exact xl_in hinv_180 (by decide) hq (by decide) (by assumption)
                            refine va_iald hx hb hK hP 2 0 rfl rfl o_15 dR_keeps_202 ?_
                            refine lv_isub hx hb dR_keeps_203 ?_
                            refine lv_i2l hx hb dR_keeps_204 rfl ?_
                            refine lv_lstore (lv' := [(12, .long (((xf wa1.toNatClampNeg) - (xf wb.toNatClampNeg)).toInt64)), (11, .int wb), (10, .int wa1), (8, .long (fR_space rf kind (4))), (6, .long (fR_space rf kind (2))), (4, .long (fR_space rf kind (3))), (0, .ref h0), (1, .int kind), (2, .int w), (3, .int h)]) hx hb dR_keeps_205 hl (by decide) rfl (fun ls hl => ?_)
                            refine lv_aload_n hx hb dR_keeps_207 rfl (lv_at hl 6 rfl) ?_
                            refine va_get (D := (dC, dI)) (ci := 3) (v := .ref ya) (C := xR_R) (T := xF_R) (N := 20) hx hb hts xi_R hown hK hP 0 rfl rfl 16 (by decide) (hts _ xk_662) (fun _ h9 => h9) rfl dR_keeps_208 ?_
                            refine lv_iload hx hb dR_keeps_211 (lv_at hl 2 rfl) ?_
                            have o_17 : vp_in wa1 32 := by exact xl_in hinv_165 (by decide) hq (by decide) (by assumption)
                            refine va_iald hx hb hK hP 3 0 rfl rfl o_17 dR_keeps_213 ?_
                            refine lv_aload_n hx hb dR_keeps_214 rfl (lv_at hl 6 rfl) ?_
                            refine va_get (D := (dC, dI)) (ci := 3) (v := .ref ya) (C := xR_R) (T := xF_R) (N := 20) hx hb hts xi_R hown hK hP 0 rfl rfl 16 (by decide) (hts _ xk_662) (fun _ h9 => h9) rfl dR_keeps_215 ?_
                            refine lv_iload hx hb dR_keeps_218 (lv_at hl 1 rfl) ?_
                            have o_18 : vp_in wb 32 := by exact xl_in hinv_180 (by decide) hq (by decide) (by assumption)
                            refine va_iald hx hb hK hP 3 0 rfl rfl o_18 dR_keeps_220 ?_
                            refine lv_isub hx hb dR_keeps_221 ?_
                            refine lv_i2l hx hb dR_keeps_222 rfl ?_
                            refine lv_lstore (lv' := [(14, .long (((yf wa1.toNatClampNeg) - (yf wb.toNatClampNeg)).toInt64)), (12, .long (((xf wa1.toNatClampNeg) - (xf wb.toNatClampNeg)).toInt64)), (11, .int wb), (10, .int wa1), (8, .long (fR_space rf kind (4))), (6, .long (fR_space rf kind (2))), (4, .long (fR_space rf kind (3))), (0, .ref h0), (1, .int kind), (2, .int w), (3, .int h)]) hx hb dR_keeps_223 hl (by decide) rfl (fun ls hl => ?_)
                            refine lv_lload hx hb dR_keeps_225 (lv_at hl 1 rfl) ?_
                            refine lv_lload hx hb dR_keeps_227 (lv_at hl 1 rfl) ?_
                            refine lv_lmul hx hb dR_keeps_229 ?_
                            refine lv_lload hx hb dR_keeps_230 (lv_at hl 0 rfl) ?_
                            refine lv_lload hx hb dR_keeps_232 (lv_at hl 0 rfl) ?_
                            refine lv_lmul hx hb dR_keeps_234 ?_
                            refine lv_ladd hx hb dR_keeps_235 ?_
                            refine lv_lload hx hb dR_keeps_236 (lv_at hl 4 rfl) ?_
                            refine lv_lload hx hb dR_keeps_238 (lv_at hl 4 rfl) ?_
                            refine lv_lmul hx hb dR_keeps_240 ?_
                            refine W.lcmp hx hb dR_keeps_241 ?_
                            refine lv_if_ge (tgt := 257) hx hb dR_keeps_242 (by decide) (fun c_20 => ?_) (fun c_20 => ?_)
                            · have c_20 := (lg_cmp_ge _ _).mp c_20
                              refine lv_iinc (v := wb + 1) (lv' := [(11, .int (wb + 1)), (14, .long (((yf wa1.toNatClampNeg) - (yf wb.toNatClampNeg)).toInt64)), (12, .long (((xf wa1.toNatClampNeg) - (xf wb.toNatClampNeg)).toInt64)), (10, .int wa1), (8, .long (fR_space rf kind (4))), (6, .long (fR_space rf kind (2))), (4, .long (fR_space rf kind (3))), (0, .ref h0), (1, .int kind), (2, .int w), (3, .int h)]) hx hb dR_keeps_257 hl (k := 2) rfl rfl (by decide) rfl (fun ls hl => ?_)
                              refine lv_goto (tgt := 180) hx hb dR_keeps_260 (by decide) ?_
                              have v_inv : xl_c 1 32 n_180 (wb + 1) := xl_s3 hinv_180 (by decide) hq (by decide) c_13
                              have v_0 : gR_keeps rf xf yf pl kind w h = kR_keeps_180a_0 rf xf yf pl kind w h wk wa1 (fun wk => kR_keeps_80a_0 rf xf yf pl kind w h n_80 wk) (fun wa1 => kR_keeps_165a_0 rf xf yf pl kind w h wk (fun wk => kR_keeps_80a_0 rf xf yf pl kind w h n_80 wk) n_165 wa1) n_180 (wb + 1) := hres_180_0.trans ((if_neg c_13).trans ((if_pos c_20).trans (rfl)))
                              have v_1 : gR_keeps_0 rf xf yf pl kind w h = kR_keeps_180a_1 rf xf yf pl kind w h wk wa1 (fun wk => kR_keeps_80a_1 rf xf yf pl kind w h n_80 wk) (fun wa1 => kR_keeps_165a_1 rf xf yf pl kind w h wk (fun wk => kR_keeps_80a_1 rf xf yf pl kind w h n_80 wk) n_165 wa1) n_180 (wb + 1) := hres_180_1.trans ((if_neg c_13).trans ((if_pos c_20).trans (rfl)))
                              exact ih_180 (wb + 1) v_inv v_0 v_1 _ _ (hP.sub (ws' := [(h0, .inr (3, [.int 0, .ref ta, .int zs, .int po, .int fa, .ref da, .ref ra, .ref la, .long we, .long le, .int pk, .int pm, .int co, .ref pa, .int pl, .ref xa, .ref ya, .int mb, .ref ea, .ref wa])), (ra, .inl (cI, 28, .inl rf)), (xa, .inl (cI, 32, .inl xf)), (ya, .inl (cI, 32, .inl yf))]) [0, 1, 2, 3] rfl) (hD.sub (ws' := [(h0, .inr (3, [.int 0, .ref ta, .int zs, .int po, .int fa, .ref da, .ref ra, .ref la, .long we, .long le, .int pk, .int pm, .int co, .ref pa, .int pl, .ref xa, .ref ya, .int mb, .ref ea, .ref wa])), (ra, .inl (cI, 28, .inl rf)), (xa, .inl (cI, 32, .inl xf)), (ya, .inl (cI, 32, .inl yf))]) [0, 1, 2, 3] (by decide) rfl) hS ls (lv_sub hl [0, 3, 4, 5, 6, 7, 8, 9, 10] rfl)
                            · have c_20 := fun q => c_20 ((lg_cmp_ge _ _).mpr q)
                              refine lv_bipush (v := 100) hx hb dR_keeps_245 (by decide) ?_
                              refine lv_bipush (v := 32) hx hb dR_keeps_247 (by decide) ?_
                              refine lv_iload hx hb dR_keeps_249 (lv_at hl 3 rfl) ?_
                              refine lv_imul hx hb dR_keeps_251 ?_
                              refine lv_iadd hx hb dR_keeps_252 ?_
                              refine lv_iload hx hb dR_keeps_253 (lv_at hl 2 rfl) ?_
                              refine lv_iadd hx hb dR_keeps_255 ?_
                              have e_0 : gR_keeps rf xf yf pl kind w h = ((100 + (32 * wa1)) + wb) := hres_180_0.trans ((if_neg c_13).trans ((if_neg c_20).trans (rfl)))
                              have e_1 : gR_keeps_0 rf xf yf pl kind w h = (0 : Int32) := hres_180_1.trans ((if_neg c_13).trans ((if_neg c_20).trans (rfl)))
                              have hP9 := hP.sub (ws' := [(h0, .inr (3, [.int 0, .ref ta, .int zs, .int po, .int fa, .ref da, .ref ra, .ref la, .long we, .long le, .int pk, .int pm, .int co, .ref pa, .int pl, .ref xa, .ref ya, .int mb, .ref ea, .ref wa])), (ra, .inl (cI, 28, .inl rf)), (xa, .inl (cI, 32, .inl xf)), (ya, .inl (cI, 32, .inl yf))]) [0, 1, 2, 3] rfl
                              have hD9 := hD.sub (ws' := [(h0, .inr (3, [.int 0, .ref ta, .int zs, .int po, .int fa, .ref da, .ref ra, .ref la, .long we, .long le, .int pk, .int pm, .int co, .ref pa, .int pl, .ref xa, .ref ya, .int mb, .ref ea, .ref wa])), (ra, .inl (cI, 28, .inl rf)), (xa, .inl (cI, 32, .inl xf)), (ya, .inl (cI, 32, .inl yf))]) [0, 1, 2, 3] (by decide) rfl
                              exact W.iret (v := ((100 + (32 * wa1)) + wb)) hx hb hr (fun t ht hW => ⟨_, _, rfl, ⟨by first | rfl | (simp only [e_0, e_1]; try rfl), by first | rfl | (simp only [e_0, e_1]; try rfl)⟩, by rw [ht]; exact hP9, hD9, hS.F ht⟩) hS.2.2 dR_keeps_256
                      have v_inv : xl_c 1 32 (wa_fuel wa1) (wa1 + 1) := xl_next hinv_165 hq c_11
                      have v_0 : gR_keeps rf xf yf pl kind w h = kR_keeps_180a_0 rf xf yf pl kind w h wk wa1 (fun wk => kR_keeps_80a_0 rf xf yf pl kind w h n_80 wk) (fun wa1 => kR_keeps_165a_0 rf xf yf pl kind w h wk (fun wk => kR_keeps_80a_0 rf xf yf pl kind w h n_80 wk) n_165 wa1) (wa_fuel wa1) (wa1 + 1) := hres_165_0.trans ((if_neg c_11).trans (rfl))
                      have v_1 : gR_keeps_0 rf xf yf pl kind w h = kR_keeps_180a_1 rf xf yf pl kind w h wk wa1 (fun wk => kR_keeps_80a_1 rf xf yf pl kind w h n_80 wk) (fun wa1 => kR_keeps_165a_1 rf xf yf pl kind w h wk (fun wk => kR_keeps_80a_1 rf xf yf pl kind w h n_80 wk) n_165 wa1) (wa_fuel wa1) (wa1 + 1) := hres_165_1.trans ((if_neg c_11).trans (rfl))
                      exact lp_180 (wa_fuel wa1) (wa1 + 1) v_inv v_0 v_1 _ _ (hP.sub (ws' := [(h0, .inr (3, [.int 0, .ref ta, .int zs, .int po, .int fa, .ref da, .ref ra, .ref la, .long we, .long le, .int pk, .int pm, .int co, .ref pa, .int pl, .ref xa, .ref ya, .int mb, .ref ea, .ref wa])), (ra, .inl (cI, 28, .inl rf)), (xa, .inl (cI, 32, .inl xf)), (ya, .inl (cI, 32, .inl yf))]) [0, 1, 2, 3] rfl) (hD.sub (ws' := [(h0, .inr (3, [.int 0, .ref ta, .int zs, .int po, .int fa, .ref da, .ref ra, .ref la, .long we, .long le, .int pk, .int pm, .int co, .ref pa, .int pl, .ref xa, .ref ya, .int mb, .ref ea, .ref wa])), (ra, .inl (cI, 28, .inl rf)), (xa, .inl (cI, 32, .inl xf)), (ya, .inl (cI, 32, .inl yf))]) [0, 1, 2, 3] (by decide) rfl) hS ls (lv_sub hl [0, 1, 2, 3, 4, 5, 6, 7, 8] rfl)
                have v_inv : xl_c 0 32 33 (0 : Int32) := ⟨0, rfl, by omega, by omega, by omega⟩
                have v_0 : gR_keeps rf xf yf pl kind w h = kR_keeps_165a_0 rf xf yf pl kind w h wk (fun wk => kR_keeps_80a_0 rf xf yf pl kind w h n_80 wk) 33 (0) := hres_80_0.trans ((if_pos c_10).trans (rfl))
                have v_1 : gR_keeps_0 rf xf yf pl kind w h = kR_keeps_165a_1 rf xf yf pl kind w h wk (fun wk => kR_keeps_80a_1 rf xf yf pl kind w h n_80 wk) 33 (0) := hres_80_1.trans ((if_pos c_10).trans (rfl))
                exact lp_165 33 (0) v_inv v_0 v_1 _ _ (hP.sub (ws' := [(h0, .inr (3, [.int 0, .ref ta, .int zs, .int po, .int fa, .ref da, .ref ra, .ref la, .long we, .long le, .int pk, .int pm, .int co, .ref pa, .int pl, .ref xa, .ref ya, .int mb, .ref ea, .ref wa])), (ra, .inl (cI, 28, .inl rf)), (xa, .inl (cI, 32, .inl xf)), (ya, .inl (cI, 32, .inl yf))]) [0, 1, 2, 3] rfl) (hD.sub (ws' := [(h0, .inr (3, [.int 0, .ref ta, .int zs, .int po, .int fa, .ref da, .ref ra, .ref la, .long we, .long le, .int pk, .int pm, .int co, .ref pa, .int pl, .ref xa, .ref ya, .int mb, .ref ea, .ref wa])), (ra, .inl (cI, 28, .inl rf)), (xa, .inl (cI, 32, .inl xf)), (ya, .inl (cI, 32, .inl yf))]) [0, 1, 2, 3] (by decide) rfl) hS ls (lv_sub hl [0, 1, 2, 3, 4, 5, 6, 7] rfl)
              · refine lv_aload_n hx hb dR_keeps_89 rfl (lv_at hl 4 rfl) ?_
                refine va_get (D := (dC, dI)) (ci := 3) (v := .ref xa) (C := xR_R) (T := xF_R) (N := 20) hx hb hts xi_R hown hK hP 0 rfl rfl 15 (by decide) (hts _ xk_661) (fun _ h9 => h9) rfl dR_keeps_90 ?_
                refine lv_iload hx hb dR_keeps_93 (lv_at hl 0 rfl) ?_
                have o_21 : vp_in wk 32 := by exact xl_in hinv_80 (by decide) hq (by decide) (by assumption)
                refine va_iald hx hb hK hP 2 0 rfl rfl o_21 dR_keeps_95 ?_
                refine lv_i2l hx hb dR_keeps_96 rfl ?_
                refine lv_lload hx hb dR_keeps_97 (lv_at hl 3 rfl) ?_
                refine W.lcmp hx hb dR_keeps_99 ?_
                refine lv_if_lt (tgt := 151) hx hb dR_keeps_100 (by decide) (fun c_22 => ?_) (fun c_22 => ?_)
                · have c_22 := (lg_cmp_lt _ _).mp c_22
                  refine lv_iconst (v := 1) hx hb dR_keeps_151 (by decide) ?_
                  refine lv_iload hx hb dR_keeps_152 (lv_at hl 0 rfl) ?_
                  refine lv_iadd hx hb dR_keeps_154 ?_
                  have e_0 : gR_keeps rf xf yf pl kind w h = (1 + wk) := hres_80_0.trans ((if_neg c_10).trans ((if_pos c_22).trans (rfl)))
                  have e_1 : gR_keeps_0 rf xf yf pl kind w h = (0 : Int32) := hres_80_1.trans ((if_neg c_10).trans ((if_pos c_22).trans (rfl)))
                  have hP9 := hP.sub (ws' := [(h0, .inr (3, [.int 0, .ref ta, .int zs, .int po, .int fa, .ref da, .ref ra, .ref la, .long we, .long le, .int pk, .int pm, .int co, .ref pa, .int pl, .ref xa, .ref ya, .int mb, .ref ea, .ref wa])), (ra, .inl (cI, 28, .inl rf)), (xa, .inl (cI, 32, .inl xf)), (ya, .inl (cI, 32, .inl yf))]) [0, 1, 2, 3] rfl
                  have hD9 := hD.sub (ws' := [(h0, .inr (3, [.int 0, .ref ta, .int zs, .int po, .int fa, .ref da, .ref ra, .ref la, .long we, .long le, .int pk, .int pm, .int co, .ref pa, .int pl, .ref xa, .ref ya, .int mb, .ref ea, .ref wa])), (ra, .inl (cI, 28, .inl rf)), (xa, .inl (cI, 32, .inl xf)), (ya, .inl (cI, 32, .inl yf))]) [0, 1, 2, 3] (by decide) rfl
                  exact W.iret (v := (1 + wk)) hx hb hr (fun t ht hW => ⟨_, _, rfl, ⟨by first | rfl | (simp only [e_0, e_1]; try rfl), by first | rfl | (simp only [e_0, e_1]; try rfl)⟩, by rw [ht]; exact hP9, hD9, hS.F ht⟩) hS.2.2 dR_keeps_155
                · have c_22 := fun q => c_22 ((lg_cmp_lt _ _).mpr q)
                  refine lv_aload_n hx hb dR_keeps_103 rfl (lv_at hl 4 rfl) ?_
                  refine va_get (D := (dC, dI)) (ci := 3) (v := .ref xa) (C := xR_R) (T := xF_R) (N := 20) hx hb hts xi_R hown hK hP 0 rfl rfl 15 (by decide) (hts _ xk_661) (fun _ h9 => h9) rfl dR_keeps_104 ?_
                  refine lv_iload hx hb dR_keeps_107 (lv_at hl 0 rfl) ?_
                  have o_23 : vp_in wk 32 := by exact xl_in hinv_80 (by decide) hq (by decide) (by assumption)
                  refine va_iald hx hb hK hP 2 0 rfl rfl o_23 dR_keeps_109 ?_
                  refine lv_i2l hx hb dR_keeps_110 rfl ?_
                  refine lv_iload_n hx hb dR_keeps_111 rfl (lv_at hl 6 rfl) ?_
                  refine lv_i2l hx hb dR_keeps_112 rfl ?_
                  refine lv_lload hx hb dR_keeps_113 (lv_at hl 3 rfl) ?_
                  refine lv_lsub hx hb dR_keeps_115 ?_
                  refine W.lcmp hx hb dR_keeps_116 ?_
                  refine lv_if_gt (tgt := 151) hx hb dR_keeps_117 (by decide) (fun c_24 => ?_) (fun c_24 => ?_)
                  · have c_24 := (lg_cmp_gt _ _).mp c_24
                    refine lv_iconst (v := 1) hx hb dR_keeps_151 (by decide) ?_
                    refine lv_iload hx hb dR_keeps_152 (lv_at hl 0 rfl) ?_
                    refine lv_iadd hx hb dR_keeps_154 ?_
                    have e_0 : gR_keeps rf xf yf pl kind w h = (1 + wk) := hres_80_0.trans ((if_neg c_10).trans ((if_neg c_22).trans ((if_pos c_24).trans (rfl))))
                    have e_1 : gR_keeps_0 rf xf yf pl kind w h = (0 : Int32) := hres_80_1.trans ((if_neg c_10).trans ((if_neg c_22).trans ((if_pos c_24).trans (rfl))))
                    have hP9 := hP.sub (ws' := [(h0, .inr (3, [.int 0, .ref ta, .int zs, .int po, .int fa, .ref da, .ref ra, .ref la, .long we, .long le, .int pk, .int pm, .int co, .ref pa, .int pl, .ref xa, .ref ya, .int mb, .ref ea, .ref wa])), (ra, .inl (cI, 28, .inl rf)), (xa, .inl (cI, 32, .inl xf)), (ya, .inl (cI, 32, .inl yf))]) [0, 1, 2, 3] rfl
                    have hD9 := hD.sub (ws' := [(h0, .inr (3, [.int 0, .ref ta, .int zs, .int po, .int fa, .ref da, .ref ra, .ref la, .long we, .long le, .int pk, .int pm, .int co, .ref pa, .int pl, .ref xa, .ref ya, .int mb, .ref ea, .ref wa])), (ra, .inl (cI, 28, .inl rf)), (xa, .inl (cI, 32, .inl xf)), (ya, .inl (cI, 32, .inl yf))]) [0, 1, 2, 3] (by decide) rfl
                    exact W.iret (v := (1 + wk)) hx hb hr (fun t ht hW => ⟨_, _, rfl, ⟨by first | rfl | (simp only [e_0, e_1]; try rfl), by first | rfl | (simp only [e_0, e_1]; try rfl)⟩, by rw [ht]; exact hP9, hD9, hS.F ht⟩) hS.2.2 dR_keeps_155
                  · have c_24 := fun q => c_24 ((lg_cmp_gt _ _).mpr q)
                    refine lv_aload_n hx hb dR_keeps_120 rfl (lv_at hl 4 rfl) ?_
                    refine va_get (D := (dC, dI)) (ci := 3) (v := .ref ya) (C := xR_R) (T := xF_R) (N := 20) hx hb hts xi_R hown hK hP 0 rfl rfl 16 (by decide) (hts _ xk_662) (fun _ h9 => h9) rfl dR_keeps_121 ?_
                    refine lv_iload hx hb dR_keeps_124 (lv_at hl 0 rfl) ?_
                    have o_25 : vp_in wk 32 := by exact xl_in hinv_80 (by decide) hq (by decide) (by assumption)
                    refine va_iald hx hb hK hP 3 0 rfl rfl o_25 dR_keeps_126 ?_
                    refine lv_i2l hx hb dR_keeps_127 rfl ?_
                    refine lv_lload hx hb dR_keeps_128 (lv_at hl 2 rfl) ?_
                    refine W.lcmp hx hb dR_keeps_130 ?_
                    refine lv_if_lt (tgt := 151) hx hb dR_keeps_131 (by decide) (fun c_26 => ?_) (fun c_26 => ?_)
                    · have c_26 := (lg_cmp_lt _ _).mp c_26
                      refine lv_iconst (v := 1) hx hb dR_keeps_151 (by decide) ?_
                      refine lv_iload hx hb dR_keeps_152 (lv_at hl 0 rfl) ?_
                      refine lv_iadd hx hb dR_keeps_154 ?_
                      have e_0 : gR_keeps rf xf yf pl kind w h = (1 + wk) := hres_80_0.trans ((if_neg c_10).trans ((if_neg c_22).trans ((if_neg c_24).trans ((if_pos c_26).trans (rfl)))))
                      have e_1 : gR_keeps_0 rf xf yf pl kind w h = (0 : Int32) := hres_80_1.trans ((if_neg c_10).trans ((if_neg c_22).trans ((if_neg c_24).trans ((if_pos c_26).trans (rfl)))))
                      have hP9 := hP.sub (ws' := [(h0, .inr (3, [.int 0, .ref ta, .int zs, .int po, .int fa, .ref da, .ref ra, .ref la, .long we, .long le, .int pk, .int pm, .int co, .ref pa, .int pl, .ref xa, .ref ya, .int mb, .ref ea, .ref wa])), (ra, .inl (cI, 28, .inl rf)), (xa, .inl (cI, 32, .inl xf)), (ya, .inl (cI, 32, .inl yf))]) [0, 1, 2, 3] rfl
                      have hD9 := hD.sub (ws' := [(h0, .inr (3, [.int 0, .ref ta, .int zs, .int po, .int fa, .ref da, .ref ra, .ref la, .long we, .long le, .int pk, .int pm, .int co, .ref pa, .int pl, .ref xa, .ref ya, .int mb, .ref ea, .ref wa])), (ra, .inl (cI, 28, .inl rf)), (xa, .inl (cI, 32, .inl xf)), (ya, .inl (cI, 32, .inl yf))]) [0, 1, 2, 3] (by decide) rfl
                      exact W.iret (v := (1 + wk)) hx hb hr (fun t ht hW => ⟨_, _, rfl, ⟨by first | rfl | (simp only [e_0, e_1]; try rfl), by first | rfl | (simp only [e_0, e_1]; try rfl)⟩, by rw [ht]; exact hP9, hD9, hS.F ht⟩) hS.2.2 dR_keeps_155
                    · have c_26 := fun q => c_26 ((lg_cmp_lt _ _).mpr q)
                      refine lv_aload_n hx hb dR_keeps_134 rfl (lv_at hl 4 rfl) ?_
                      refine va_get (D := (dC, dI)) (ci := 3) (v := .ref ya) (C := xR_R) (T := xF_R) (N := 20) hx hb hts xi_R hown hK hP 0 rfl rfl 16 (by decide) (hts _ xk_662) (fun _ h9 => h9) rfl dR_keeps_135 ?_
                      refine lv_iload hx hb dR_keeps_138 (lv_at hl 0 rfl) ?_
                      have o_27 : vp_in wk 32 := by exact xl_in hinv_80 (by decide) hq (by decide) (by assumption)
                      refine va_iald hx hb hK hP 3 0 rfl rfl o_27 dR_keeps_140 ?_
                      refine lv_i2l hx hb dR_keeps_141 rfl ?_
                      refine lv_iload_n hx hb dR_keeps_142 rfl (lv_at hl 7 rfl) ?_
                      refine lv_i2l hx hb dR_keeps_143 rfl ?_
                      refine lv_lload hx hb dR_keeps_144 (lv_at hl 2 rfl) ?_
                      refine lv_lsub hx hb dR_keeps_146 ?_
                      refine W.lcmp hx hb dR_keeps_147 ?_
                      refine lv_if_le (tgt := 156) hx hb dR_keeps_148 (by decide) (fun c_28 => ?_) (fun c_28 => ?_)
                      · have c_28 := (lg_cmp_le _ _).mp c_28
                        refine lv_iinc (v := wk + 1) (lv' := [(10, .int (wk + 1)), (8, .long (fR_space rf kind (4))), (6, .long (fR_space rf kind (2))), (4, .long (fR_space rf kind (3))), (0, .ref h0), (1, .int kind), (2, .int w), (3, .int h)]) hx hb dR_keeps_156 hl (k := 0) rfl rfl (by decide) rfl (fun ls hl => ?_)
                        refine lv_goto (tgt := 80) hx hb dR_keeps_159 (by decide) ?_
                        have v_inv : xl_c 0 32 n_80 (wk + 1) := xl_s3 hinv_80 (by decide) hq (by decide) c_10
                        have v_0 : gR_keeps rf xf yf pl kind w h = kR_keeps_80a_0 rf xf yf pl kind w h n_80 (wk + 1) := hres_80_0.trans ((if_neg c_10).trans ((if_neg c_22).trans ((if_neg c_24).trans ((if_neg c_26).trans ((if_pos c_28).trans (rfl))))))
                        have v_1 : gR_keeps_0 rf xf yf pl kind w h = kR_keeps_80a_1 rf xf yf pl kind w h n_80 (wk + 1) := hres_80_1.trans ((if_neg c_10).trans ((if_neg c_22).trans ((if_neg c_24).trans ((if_neg c_26).trans ((if_pos c_28).trans (rfl))))))
                        exact ih_80 (wk + 1) v_inv v_0 v_1 _ _ (hP.sub (ws' := [(h0, .inr (3, [.int 0, .ref ta, .int zs, .int po, .int fa, .ref da, .ref ra, .ref la, .long we, .long le, .int pk, .int pm, .int co, .ref pa, .int pl, .ref xa, .ref ya, .int mb, .ref ea, .ref wa])), (ra, .inl (cI, 28, .inl rf)), (xa, .inl (cI, 32, .inl xf)), (ya, .inl (cI, 32, .inl yf))]) [0, 1, 2, 3] rfl) (hD.sub (ws' := [(h0, .inr (3, [.int 0, .ref ta, .int zs, .int po, .int fa, .ref da, .ref ra, .ref la, .long we, .long le, .int pk, .int pm, .int co, .ref pa, .int pl, .ref xa, .ref ya, .int mb, .ref ea, .ref wa])), (ra, .inl (cI, 28, .inl rf)), (xa, .inl (cI, 32, .inl xf)), (ya, .inl (cI, 32, .inl yf))]) [0, 1, 2, 3] (by decide) rfl) hS ls (lv_sub hl [0, 1, 2, 3, 4, 5, 6, 7] rfl)
                      · have c_28 := fun q => c_28 ((lg_cmp_le _ _).mpr q)
                        refine lv_iconst (v := 1) hx hb dR_keeps_151 (by decide) ?_
                        refine lv_iload hx hb dR_keeps_152 (lv_at hl 0 rfl) ?_
                        refine lv_iadd hx hb dR_keeps_154 ?_
                        have e_0 : gR_keeps rf xf yf pl kind w h = (1 + wk) := hres_80_0.trans ((if_neg c_10).trans ((if_neg c_22).trans ((if_neg c_24).trans ((if_neg c_26).trans ((if_neg c_28).trans (rfl))))))
                        have e_1 : gR_keeps_0 rf xf yf pl kind w h = (0 : Int32) := hres_80_1.trans ((if_neg c_10).trans ((if_neg c_22).trans ((if_neg c_24).trans ((if_neg c_26).trans ((if_neg c_28).trans (rfl))))))
                        have hP9 := hP.sub (ws' := [(h0, .inr (3, [.int 0, .ref ta, .int zs, .int po, .int fa, .ref da, .ref ra, .ref la, .long we, .long le, .int pk, .int pm, .int co, .ref pa, .int pl, .ref xa, .ref ya, .int mb, .ref ea, .ref wa])), (ra, .inl (cI, 28, .inl rf)), (xa, .inl (cI, 32, .inl xf)), (ya, .inl (cI, 32, .inl yf))]) [0, 1, 2, 3] rfl
                        have hD9 := hD.sub (ws' := [(h0, .inr (3, [.int 0, .ref ta, .int zs, .int po, .int fa, .ref da, .ref ra, .ref la, .long we, .long le, .int pk, .int pm, .int co, .ref pa, .int pl, .ref xa, .ref ya, .int mb, .ref ea, .ref wa])), (ra, .inl (cI, 28, .inl rf)), (xa, .inl (cI, 32, .inl xf)), (ya, .inl (cI, 32, .inl yf))]) [0, 1, 2, 3] (by decide) rfl
                        exact W.iret (v := (1 + wk)) hx hb hr (fun t ht hW => ⟨_, _, rfl, ⟨by first | rfl | (simp only [e_0, e_1]; try rfl), by first | rfl | (simp only [e_0, e_1]; try rfl)⟩, by rw [ht]; exact hP9, hD9, hS.F ht⟩) hS.2.2 dR_keeps_155
          have v_inv : xl_c 0 32 33 (0 : Int32) := ⟨0, rfl, by omega, by omega, by omega⟩
          have v_0 : gR_keeps rf xf yf pl kind w h = kR_keeps_80a_0 rf xf yf pl kind w h 33 (0) := (if_pos c_1).trans ((if_pos c_2).trans ((if_pos c_4).trans (rfl)))
          have v_1 : gR_keeps_0 rf xf yf pl kind w h = kR_keeps_80a_1 rf xf yf pl kind w h 33 (0) := (if_pos c_1).trans ((if_pos c_2).trans ((if_pos c_4).trans (rfl)))
          exact lp_80 33 (0) v_inv v_0 v_1 _ _ (hP.sub (ws' := [(h0, .inr (3, [.int 0, .ref ta, .int zs, .int po, .int fa, .ref da, .ref ra, .ref la, .long we, .long le, .int pk, .int pm, .int co, .ref pa, .int pl, .ref xa, .ref ya, .int mb, .ref ea, .ref wa])), (ra, .inl (cI, 28, .inl rf)), (xa, .inl (cI, 32, .inl xf)), (ya, .inl (cI, 32, .inl yf))]) [0, 1, 2, 3] rfl) (hD.sub (ws' := [(h0, .inr (3, [.int 0, .ref ta, .int zs, .int po, .int fa, .ref da, .ref ra, .ref la, .long we, .long le, .int pk, .int pm, .int co, .ref pa, .int pl, .ref xa, .ref ya, .int mb, .ref ea, .ref wa])), (ra, .inl (cI, 28, .inl rf)), (xa, .inl (cI, 32, .inl xf)), (ya, .inl (cI, 32, .inl yf))]) [0, 1, 2, 3] (by decide) rfl) hS ls (lv_sub hl [0, 1, 2, 3, 4, 5, 6, 7] rfl)
        · exact absurd c_6 (by decide)
  · have c_1 := xb_bi_f.mp c_1
    refine lv_iconst (v := 1) hx hb dR_keeps_8 (by decide) ?_
    refine lv_goto (tgt := 41) hx hb dR_keeps_9 (by decide) ?_
    refine va_put (D := (dC, dI)) (ci := 3) (v := .int 1) (ty := .int) (C := xR_R) (T := xF_R) (N := 20) hx hb hts xi_R xt_R xt_R_ok xn_R hown hK hP hD hS 0 rfl rfl 0 (by decide) (hts _ xk_646) (fun _ h9 => h9) rfl (by decide +kernel) rfl rfl (Nat.le_of_ble_eq_true rfl) dR_keeps_41 (fun H locs hP hD hS => ?_)
    have hP : va_P (dC, dI) classes [(h0, .inr (3, [.int 1, .ref ta, .int zs, .int po, .int fa, .ref da, .ref ra, .ref la, .long we, .long le, .int pk, .int pm, .int co, .ref pa, .int pl, .ref xa, .ref ya, .int mb, .ref ea, .ref wa])), (ra, .inl (cI, 28, .inl rf)), (xa, .inl (cI, 32, .inl xf)), (ya, .inl (cI, 32, .inl yf))] H := hP
    have hD : va_D A [(h0, .inr (3, [.int 1, .ref ta, .int zs, .int po, .int fa, .ref da, .ref ra, .ref la, .long we, .long le, .int pk, .int pm, .int co, .ref pa, .int pl, .ref xa, .ref ya, .int mb, .ref ea, .ref wa])), (ra, .inl (cI, 28, .inl rf)), (xa, .inl (cI, 32, .inl xf)), (ya, .inl (cI, 32, .inl yf))] := hD
    refine lv_aload_n hx hb dR_keeps_44 rfl (lv_at hl 0 rfl) ?_
    refine va_get (D := (dC, dI)) (ci := 3) (v := .int 1) (C := xR_R) (T := xF_R) (N := 20) hx hb hts xi_R hown hK hP 0 rfl rfl 0 (by decide) (hts _ xk_646) (fun _ h9 => h9) rfl dR_keeps_45 ?_
    refine lv_if_le (tgt := 53) hx hb dR_keeps_48 (by decide) (fun c_29 => ?_) (fun c_29 => ?_)
    · exact absurd c_29 (by decide)
    · refine lv_iconst (v := 0) hx hb dR_keeps_51 (by decide) ?_
      have e_0 : gR_keeps rf xf yf pl kind w h = (0 : Int32) := (if_neg c_1).trans (rfl)
      have e_1 : gR_keeps_0 rf xf yf pl kind w h = (1 : Int32) := (if_neg c_1).trans (rfl)
      have hP9 := hP.sub (ws' := [(h0, .inr (3, [.int 1, .ref ta, .int zs, .int po, .int fa, .ref da, .ref ra, .ref la, .long we, .long le, .int pk, .int pm, .int co, .ref pa, .int pl, .ref xa, .ref ya, .int mb, .ref ea, .ref wa])), (ra, .inl (cI, 28, .inl rf)), (xa, .inl (cI, 32, .inl xf)), (ya, .inl (cI, 32, .inl yf))]) [0, 1, 2, 3] rfl
      have hD9 := hD.sub (ws' := [(h0, .inr (3, [.int 1, .ref ta, .int zs, .int po, .int fa, .ref da, .ref ra, .ref la, .long we, .long le, .int pk, .int pm, .int co, .ref pa, .int pl, .ref xa, .ref ya, .int mb, .ref ea, .ref wa])), (ra, .inl (cI, 28, .inl rf)), (xa, .inl (cI, 32, .inl xf)), (ya, .inl (cI, 32, .inl yf))]) [0, 1, 2, 3] (by decide) rfl
      exact W.iret (v := 0) hx hb hr (fun t ht hW => ⟨_, _, rfl, ⟨by first | rfl | (simp only [e_0, e_1]; try rfl), by first | rfl | (simp only [e_0, e_1]; try rfl)⟩, by rw [ht]; exact hP9, hD9, hS.F ht⟩) hS.2.2 dR_keeps_52
