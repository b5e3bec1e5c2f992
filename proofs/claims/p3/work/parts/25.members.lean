theorem xn_ts {n : Nat} {wi w st : Int32} (h : xl_t (n + 1) wi) (c : ¬ w < wi) (hw : w.toInt64 ≤ 1000) (g1 : ¬ st.toInt64 < 10) (g2 : st.toInt64 ≤ 1000) : xl_t n (wi + st) := by
  obtain ⟨j, rfl, h1, h2⟩ := h
  simp only [Int64.le_iff_toInt_le, Int64.lt_iff_toInt_lt, Int32.toInt_toInt64, show ((1000 : Int64)).toInt = 1000 from by decide, show ((10 : Int64)).toInt = 10 from by decide] at hw g1 g2
  rw [Int32.lt_iff_toInt_lt, nI_toInt (by omega)] at c
  obtain ⟨k, hk, rfl⟩ := nI_of (x := st) (by rw [Int32.lt_iff_toInt_lt, show ((0 : Int32)).toInt = 0 from by decide]; omega)
  rw [nI_toInt hk] at g1 g2
  exact ⟨j + k, nI_add j k, by omega, by omega⟩
def gN_member_f (x0 : Int32) (y0 : Int32) (x1 : Int32) (y1 : Int32) (wd : Int32) : Int32 := if x0 = x1 then ((fA_size (1)) - 1) else ((fA_size (1)) - 1)
set_option maxHeartbeats 4000000 in
set_option maxRecDepth 100000 in
theorem cN_member_f (l : Launch) {s0 : State} {dC : Nat → ClassId} {dI : Nat → Nat → Nat} {cI cC cL cO : ClassId} (E : xb_Env l s0 dC dI (xtys cI cC cL cO)) {d0 : Nat} (sz : Nat) (h0 : Nat) (ml : Nat) (ta : Nat) (ra : Nat) (wet : Int32) (less : Int32) (px : Nat) (py : Nat) (pn : Int32) (qx : Nat) (qy : Nat) (qn : Int32) (mo : Int32) (x0 : Int32) (y0 : Int32) (x1 : Int32) (y1 : Int32) (wd : Int32) (ua : ¬ x0.toInt64 < (-10000)) (ub : x0.toInt64 ≤ 10000) (wa : ¬ y0.toInt64 < (-10000)) (wb : y0.toInt64 ≤ 10000) (ga : ¬ x1.toInt64 < (-10000)) (gb : x1.toInt64 ≤ 10000) (qa : ¬ y1.toInt64 < (-10000)) (qb : y1.toInt64 ≤ 10000) (hne : ¬ (x0 = x1 ∧ y0 = y1)) (va : ¬ wd.toInt64 < 1) (vb : wd.toInt64 ≤ 10000) (hZ : xa_D s0 d0) : Met l yN_member [.code yN_member bN_member 6 (some (.int))] ({ frames := 5, cells := 2, slots := 15, locals := 101 }) (va_Pc [.ref h0, .int x0, .int y0, .int x1, .int y1, .int wd] (fun U => xb_At s0 U ∧ U.heap.size = sz ∧ va_P (dC, dI) classes [(h0, .inr (0, [.ref ta, .ref ra, .int wet, .int less, .ref px, .ref py, .int pn, .ref qx, .ref qy, .int qn, .ref ml])), (ml, .inr (4, [.ref d0, .int 0, .int mo]))] U.heap ∧ va_D (fun q => s0.heap.size ≤ q) [(h0, .inr (0, [.ref ta, .ref ra, .int wet, .int less, .ref px, .ref py, .int pn, .ref qx, .ref qy, .int qn, .ref ml])), (ml, .inr (4, [.ref d0, .int 0, .int mo]))])) (xb_W (dC, dI) (fun v9 w9 => ∃ q_1 q_2 : Nat, v9 = some (.int (gN_member_f x0 y0 x1 y1 wd)) ∧ w9 = [(h0, .inr (0, [.ref ta, .ref ra, .int wet, .int less, .ref px, .ref py, .int pn, .ref qx, .ref qy, .int qn, .ref ml])), (ml, .inr (4, [.ref q_2, .int 1, .int (mo + 1)])), (q_2, .inl (cO, 10, .inr (.inr (.inr (.inr (va_up (fun _ => none) (0 : Int32).toNatClampNeg (some q_1))))))), (q_1, .inr (2, [.long x0.toInt64, .long y0.toInt64, .long ((x1 - x0).toInt64), .long ((y1 - y0).toInt64), .long wd.toInt64]))]) (va_A [(h0, .inr (0, [.ref ta, .ref ra, .int wet, .int less, .ref px, .ref py, .int pn, .ref qx, .ref qy, .int qn, .ref ml])), (ml, .inr (4, [.ref d0, .int 0, .int mo]))] sz)) 2 15 (va_A [(h0, .inr (0, [.ref ta, .ref ra, .int wet, .int less, .ref px, .ref py, .int pn, .ref qx, .ref qy, .int qn, .ref ml])), (ml, .inr (4, [.ref d0, .int 0, .int mo]))] sz) := by
  refine Met.ofW (cc := bN_member) (maxL := 6) (ret := (some (.int))) (by decide) rfl ?_
  intro p e s m args below meth c s₁ B hml hv
  obtain ⟨rfl, hAt, hsz, hP, hD0⟩ := hv
  have hx := B.exec
  have hb := B.bytes
  have hr := B.returns
  have hts := xb_hts E hAt ([.ref h0, .int x0, .int y0, .int x1, .int y1, .int wd] : List Value).toArray
  have hown : s.vm.findClass "NailRules" = some m.cls := findClass_of_methodNamed B.named
  have hlocks := B.notSynchronized
  have hK := xb_K E hAt
  subst hsz
  have hA0 := xb_A0 hAt hD0
  have hD := hD0.self (sz := s.heap.size)
  generalize hAe : va_A [(h0, .inr (0, [.ref ta, .ref ra, .int wet, .int less, .ref px, .ref py, .int pn, .ref qx, .ref qy, .int qn, .ref ml])), (ml, .inr (4, [.ref d0, .int 0, .int mo]))] s.heap.size = A at hD hA0 ⊢
  have hA : ∀ q : Nat, s.heap.size ≤ q → A q := fun q h => by rw [← hAe]; exact Or.inr h
  have hS : va_S A s.heap s.heap [] := va_S.rf
  have hl := lv_entry ([.ref h0, .int x0, .int y0, .int x1, .int y1, .int wd]) (n := 6) (Nat.le_of_ble_eq_true rfl)
  rw [lg_entry_eq]
  generalize (lg_sl ([.ref h0, .int x0, .int y0, .int x1, .int y1, .int wd]) ++ List.replicate (6 - (lg_sl ([.ref h0, .int x0, .int y0, .int x1, .int y1, .int wd])).length) Slot.unset).toArray = ls at hl ⊢
  have hl : lv_has ls 6 [(0, .ref h0), (1, .int x0), (2, .int y0), (3, .int x1), (4, .int y1), (5, .int wd)] := hl
  refine lv_iload_n hx hb dN_member_0 rfl (lv_at hl 1 rfl) ?_
  refine lv_i2l hx hb dN_member_1 rfl ?_
  refine lv_ldc2 (v := (-10000)) hx hb hown (hts _ xk_510) dN_member_2 ?_
  refine lv_ldc2 (v := 10000) hx hb hown (hts _ xk_511) dN_member_5 ?_
  refine xb_rd (W.runS (As := [.long x0.toInt64, .long (-10000), .long 10000]) (rest := []) ⟨hx, hb, hml, hown, hts⟩ (cN_requireWithin l E x0.toInt64 (-10000) 10000 (ua) (ub)) (cwS 3 hts (xb_gi (List.forall_mem_cons.mpr ⟨xk_371, List.forall_mem_cons.mpr ⟨xk_372, List.forall_mem_cons.mpr ⟨xk_40, List.forall_mem_cons.mpr ⟨xk_373, fun _ h => absurd h List.not_mem_nil⟩⟩⟩⟩)) rfl rfl rfl (by decide +kernel) ⟨Nat.le_of_ble_eq_true rfl, Nat.le_of_ble_eq_true rfl⟩) ⟨fun _ _ _ _ q => q, fun U hU hW => ⟨rfl, xb_atS hAt hS hA0 hU hW, fun k q h => by simp at h⟩⟩ rfl rfl hl.1 rfl (lv_room (Nat.le_of_ble_eq_true rfl)) dN_member_8 ⟨Nat.zero_le _, Nat.zero_le _⟩) ?_
  refine lv_iload_n hx hb dN_member_11 rfl (lv_at hl 2 rfl) ?_
  refine lv_i2l hx hb dN_member_12 rfl ?_
  refine lv_ldc2 (v := (-10000)) hx hb hown (hts _ xk_510) dN_member_13 ?_
  refine lv_ldc2 (v := 10000) hx hb hown (hts _ xk_511) dN_member_16 ?_
  refine xb_rd (W.runS (As := [.long y0.toInt64, .long (-10000), .long 10000]) (rest := []) ⟨hx, hb, hml, hown, hts⟩ (cN_requireWithin l E y0.toInt64 (-10000) 10000 (wa) (wb)) (cwS 3 hts (xb_gi (List.forall_mem_cons.mpr ⟨xk_371, List.forall_mem_cons.mpr ⟨xk_372, List.forall_mem_cons.mpr ⟨xk_40, List.forall_mem_cons.mpr ⟨xk_373, fun _ h => absurd h List.not_mem_nil⟩⟩⟩⟩)) rfl rfl rfl (by decide +kernel) ⟨Nat.le_of_ble_eq_true rfl, Nat.le_of_ble_eq_true rfl⟩) ⟨fun _ _ _ _ q => q, fun U hU hW => ⟨rfl, xb_atS hAt hS hA0 hU hW, fun k q h => by simp at h⟩⟩ rfl rfl hl.1 rfl (lv_room (Nat.le_of_ble_eq_true rfl)) dN_member_19 ⟨Nat.zero_le _, Nat.zero_le _⟩) ?_
  refine lv_iload_n hx hb dN_member_22 rfl (lv_at hl 3 rfl) ?_
  refine lv_i2l hx hb dN_member_23 rfl ?_
  refine lv_ldc2 (v := (-10000)) hx hb hown (hts _ xk_510) dN_member_24 ?_
  refine lv_ldc2 (v := 10000) hx hb hown (hts _ xk_511) dN_member_27 ?_
  refine xb_rd (W.runS (As := [.long x1.toInt64, .long (-10000), .long 10000]) (rest := []) ⟨hx, hb, hml, hown, hts⟩ (cN_requireWithin l E x1.toInt64 (-10000) 10000 (ga) (gb)) (cwS 3 hts (xb_gi (List.forall_mem_cons.mpr ⟨xk_371, List.forall_mem_cons.mpr ⟨xk_372, List.forall_mem_cons.mpr ⟨xk_40, List.forall_mem_cons.mpr ⟨xk_373, fun _ h => absurd h List.not_mem_nil⟩⟩⟩⟩)) rfl rfl rfl (by decide +kernel) ⟨Nat.le_of_ble_eq_true rfl, Nat.le_of_ble_eq_true rfl⟩) ⟨fun _ _ _ _ q => q, fun U hU hW => ⟨rfl, xb_atS hAt hS hA0 hU hW, fun k q h => by simp at h⟩⟩ rfl rfl hl.1 rfl (lv_room (Nat.le_of_ble_eq_true rfl)) dN_member_30 ⟨Nat.zero_le _, Nat.zero_le _⟩) ?_
  refine lv_iload hx hb dN_member_33 (lv_at hl 4 rfl) ?_
  refine lv_i2l hx hb dN_member_35 rfl ?_
  refine lv_ldc2 (v := (-10000)) hx hb hown (hts _ xk_510) dN_member_36 ?_
  refine lv_ldc2 (v := 10000) hx hb hown (hts _ xk_511) dN_member_39 ?_
  refine xb_rd (W.runS (As := [.long y1.toInt64, .long (-10000), .long 10000]) (rest := []) ⟨hx, hb, hml, hown, hts⟩ (cN_requireWithin l E y1.toInt64 (-10000) 10000 (qa) (qb)) (cwS 3 hts (xb_gi (List.forall_mem_cons.mpr ⟨xk_371, List.forall_mem_cons.mpr ⟨xk_372, List.forall_mem_cons.mpr ⟨xk_40, List.forall_mem_cons.mpr ⟨xk_373, fun _ h => absurd h List.not_mem_nil⟩⟩⟩⟩)) rfl rfl rfl (by decide +kernel) ⟨Nat.le_of_ble_eq_true rfl, Nat.le_of_ble_eq_true rfl⟩) ⟨fun _ _ _ _ q => q, fun U hU hW => ⟨rfl, xb_atS hAt hS hA0 hU hW, fun k q h => by simp at h⟩⟩ rfl rfl hl.1 rfl (lv_room (Nat.le_of_ble_eq_true rfl)) dN_member_42 ⟨Nat.zero_le _, Nat.zero_le _⟩) ?_
  refine lv_iload_n hx hb dN_member_45 rfl (lv_at hl 1 rfl) ?_
  refine lv_iload_n hx hb dN_member_46 rfl (lv_at hl 3 rfl) ?_
  refine lv_icmp_ne (tgt := 66) hx hb dN_member_47 (by decide) (fun c_1 => ?_) (fun c_1 => ?_)
  · refine lv_iload hx hb dN_member_66 (lv_at hl 5 rfl) ?_
    refine lv_i2l hx hb dN_member_68 rfl ?_
    refine lv_lconst (v := 1) hx hb dN_member_69 (by decide) ?_
    refine lv_ldc2 (v := 10000) hx hb hown (hts _ xk_511) dN_member_70 ?_
    refine xb_rd (W.runS (As := [.long wd.toInt64, .long 1, .long 10000]) (rest := []) ⟨hx, hb, hml, hown, hts⟩ (cN_requireWithin l E wd.toInt64 1 10000 (va) (vb)) (cwS 3 hts (xb_gi (List.forall_mem_cons.mpr ⟨xk_371, List.forall_mem_cons.mpr ⟨xk_372, List.forall_mem_cons.mpr ⟨xk_40, List.forall_mem_cons.mpr ⟨xk_373, fun _ h => absurd h List.not_mem_nil⟩⟩⟩⟩)) rfl rfl rfl (by decide +kernel) ⟨Nat.le_of_ble_eq_true rfl, Nat.le_of_ble_eq_true rfl⟩) ⟨fun _ _ _ _ q => q, fun U hU hW => ⟨rfl, xb_atS hAt hS hA0 hU hW, fun k q h => by simp at h⟩⟩ rfl rfl hl.1 rfl (lv_room (Nat.le_of_ble_eq_true rfl)) dN_member_73 ⟨Nat.zero_le _, Nat.zero_le _⟩) ?_
    refine lv_aload_n hx hb dN_member_76 rfl (lv_at hl 0 rfl) ?_
    refine va_get (D := (dC, dI)) (ci := 0) (v := .ref ml) (C := xR_N) (T := xF_N) (N := 11) hx hb hts xi_N hown hK hP 0 rfl rfl 10 (by decide) (hts _ xk_124) (fun _ h9 => h9) rfl dN_member_77 ?_
    refine xb_rd (W.runV (C := "java/util/ArrayList") (As := []) (rest := []) ⟨hx, hb, hml, hown, hts⟩ (cA_size l E ml ([.ref d0, .int 0, .int mo]) 0 rfl) (cwV 0 hts (xb_gi (List.forall_mem_cons.mpr ⟨xk_513, List.forall_mem_cons.mpr ⟨xk_514, List.forall_mem_cons.mpr ⟨xk_515, List.forall_mem_cons.mpr ⟨xk_44, List.forall_mem_cons.mpr ⟨xk_516, fun _ h => absurd h List.not_mem_nil⟩⟩⟩⟩⟩)) rfl rfl rfl (by decide +kernel) ⟨Nat.le_of_ble_eq_true rfl, Nat.le_of_ble_eq_true rfl⟩) ⟨fun _ _ _ _ q => q, va_recv hK hP (ci := 4) (q0 := 1) rfl rfl, fun U hU hW => ⟨rfl, xb_atS hAt hS hA0 hU hW, by rw [hU]; exact hP.sub (ws' := [(ml, .inr (4, [.ref d0, .int 0, .int mo]))]) [1] rfl⟩⟩ rfl rfl hl.1 rfl (lv_room (Nat.le_of_ble_eq_true rfl)) dN_member_80 ⟨Nat.zero_le _, Nat.zero_le _⟩) ?_
    refine lv_bipush (v := 6) hx hb dN_member_83 (by decide) ?_
    refine lv_icmp_lt (tgt := 98) hx hb dN_member_85 (by decide) (fun c_2 => ?_) (fun c_2 => ?_)
    · refine lv_aload_n hx hb dN_member_98 rfl (lv_at hl 0 rfl) ?_
      refine va_get (D := (dC, dI)) (ci := 0) (v := .ref ml) (C := xR_N) (T := xF_N) (N := 11) hx hb hts xi_N hown hK hP 0 rfl rfl 10 (by decide) (hts _ xk_124) (fun _ h9 => h9) rfl dN_member_99 ?_
      refine va_new (ci := 2) (fs := [.long 0, .long 0, .long 0, .long 0, .long 0]) (C := xR_M) (T := xF_M) (N := 5) hx hb hts xi_M xt_M xt_M_ok hown (hts _ xk_518) (hts _ xk_519) (hts _ xk_57) hK hP hD hS hA rfl (fun j hj => by rcases (show j = 0 ∨ j = 1 ∨ j = 2 ∨ j = 3 ∨ j = 4 by omega) with rfl | rfl | rfl | rfl | rfl <;> rfl) (Nat.le_of_ble_eq_true rfl) (Nat.le_of_ble_eq_true rfl) dN_member_102 (fun q_1 H hP hD hS => ?_)
      have hP : va_P (dC, dI) classes [(h0, .inr (0, [.ref ta, .ref ra, .int wet, .int less, .ref px, .ref py, .int pn, .ref qx, .ref qy, .int qn, .ref ml])), (ml, .inr (4, [.ref d0, .int 0, .int mo])), (q_1, .inr (2, [.long 0, .long 0, .long 0, .long 0, .long 0]))] H := hP
      have hD : va_D A [(h0, .inr (0, [.ref ta, .ref ra, .int wet, .int less, .ref px, .ref py, .int pn, .ref qx, .ref qy, .int qn, .ref ml])), (ml, .inr (4, [.ref d0, .int 0, .int mo])), (q_1, .inr (2, [.long 0, .long 0, .long 0, .long 0, .long 0]))] := hD
      refine W.widen (k := 1) (n := 5) (by omega) (by omega) ?_
      refine lv_dup hx hb dN_member_105 rfl ?_
      refine lv_iload_n hx hb dN_member_106 rfl (lv_at hl 1 rfl) ?_
      refine lv_iload_n hx hb dN_member_107 rfl (lv_at hl 2 rfl) ?_
      refine lv_iload_n hx hb dN_member_108 rfl (lv_at hl 3 rfl) ?_
      refine lv_iload hx hb dN_member_109 (lv_at hl 4 rfl) ?_
      refine lv_iload hx hb dN_member_111 (lv_at hl 5 rfl) ?_
      refine xb_wr (wr := [(h0, .inr (0, [.ref ta, .ref ra, .int wet, .int less, .ref px, .ref py, .int pn, .ref qx, .ref qy, .int qn, .ref ml])), (ml, .inr (4, [.ref d0, .int 0, .int mo]))]) (va_runIN (As := [.int x0, .int y0, .int x1, .int y1, .int wd]) (rest := [.ref q_1, .ref ml]) ⟨hx, hb, hml, hown, hts⟩ (cM_init l E _ q_1 x0 y0 x1 y1 wd) ⟨va_cnB 5 hts (xb_gi (List.forall_mem_cons.mpr ⟨xk_522, fun _ h => absurd h List.not_mem_nil⟩)) rfl rfl rfl (xb_nest E hAt xk_520) (hts _ xk_57) (by decide +kernel) ⟨Nat.le_of_ble_eq_true rfl, Nat.le_of_ble_eq_true rfl⟩, rfl, hts _ xk_521⟩ ⟨fun _ _ _ _ q => q, fun U hU hW => ⟨rfl, xb_atS hAt hS hA0 hU hW, by rw [hU], by rw [hU]; exact hP.sub (ws' := [(q_1, .inr (2, [.long 0, .long 0, .long 0, .long 0, .long 0]))]) [2] rfl, (hD.sub (ws' := [(q_1, .inr (2, [.long 0, .long 0, .long 0, .long 0, .long 0]))]) [2] (by decide) rfl).weaken (fun _ q _ h => hA0 q.1 h)⟩⟩ rfl rfl hl.1 rfl (lv_room (Nat.le_of_ble_eq_true rfl)) dN_member_113 ⟨Nat.le_of_ble_eq_true rfl, Nat.le_of_ble_eq_true rfl⟩) hP hD hS hA [2] [0, 1] rfl rfl (by decide) (by decide) ?_
      rintro _ _ H locs ⟨rfl, rfl⟩ hP hD hS
      have hP : va_P (dC, dI) classes [(h0, .inr (0, [.ref ta, .ref ra, .int wet, .int less, .ref px, .ref py, .int pn, .ref qx, .ref qy, .int qn, .ref ml])), (ml, .inr (4, [.ref d0, .int 0, .int mo])), (q_1, .inr (2, [.long x0.toInt64, .long y0.toInt64, .long ((x1 - x0).toInt64), .long ((y1 - y0).toInt64), .long wd.toInt64]))] H := hP
      have hD : va_D A [(h0, .inr (0, [.ref ta, .ref ra, .int wet, .int less, .ref px, .ref py, .int pn, .ref qx, .ref qy, .int qn, .ref ml])), (ml, .inr (4, [.ref d0, .int 0, .int mo])), (q_1, .inr (2, [.long x0.toInt64, .long y0.toInt64, .long ((x1 - x0).toInt64), .long ((y1 - y0).toInt64), .long wd.toInt64]))] := hD
      refine xb_wr (wr := [(h0, .inr (0, [.ref ta, .ref ra, .int wet, .int less, .ref px, .ref py, .int pn, .ref qx, .ref qy, .int qn, .ref ml]))]) (va_runV (C := "java/util/ArrayList") (As := [.ref q_1]) (rest := []) ⟨hx, hb, hml, hown, hts⟩ (cA_add_f l E _ ml q_1 mo x0.toInt64 y0.toInt64 ((x1 - x0).toInt64) ((y1 - y0).toInt64) wd.toInt64 (hZ)) (cwV 1 hts (xb_gi (List.forall_mem_cons.mpr ⟨xk_540, List.forall_mem_cons.mpr ⟨xk_541, List.forall_mem_cons.mpr ⟨xk_542, List.forall_mem_cons.mpr ⟨xk_44, List.forall_mem_cons.mpr ⟨xk_543, fun _ h => absurd h List.not_mem_nil⟩⟩⟩⟩⟩)) rfl rfl rfl (by decide +kernel) ⟨Nat.le_of_ble_eq_true rfl, Nat.le_of_ble_eq_true rfl⟩) ⟨fun _ _ _ _ q => q, va_recv hK hP (ci := 4) (q0 := 1) rfl rfl, fun U hU hW => ⟨rfl, xb_atS hAt hS hA0 hU hW, by rw [hU], by rw [hU]; exact hP.sub (ws' := [(ml, .inr (4, [.ref d0, .int 0, .int mo])), (q_1, .inr (2, [.long x0.toInt64, .long y0.toInt64, .long ((x1 - x0).toInt64), .long ((y1 - y0).toInt64), .long wd.toInt64]))]) [1, 2] rfl, (hD.sub (ws' := [(ml, .inr (4, [.ref d0, .int 0, .int mo])), (q_1, .inr (2, [.long x0.toInt64, .long y0.toInt64, .long ((x1 - x0).toInt64), .long ((y1 - y0).toInt64), .long wd.toInt64]))]) [1, 2] (by decide) rfl).weaken (fun _ q _ h => hA0 q.1 h)⟩⟩ rfl rfl hl.1 rfl (lv_room (Nat.le_of_ble_eq_true rfl)) dN_member_116 ⟨Nat.le_of_ble_eq_true rfl, Nat.le_of_ble_eq_true rfl⟩) hP hD hS hA [1, 2] [0] rfl rfl (by decide) (by decide) ?_
      rintro _ _ H locs ⟨q_2, rfl, rfl⟩ hP hD hS
      have hP : va_P (dC, dI) classes [(h0, .inr (0, [.ref ta, .ref ra, .int wet, .int less, .ref px, .ref py, .int pn, .ref qx, .ref qy, .int qn, .ref ml])), (ml, .inr (4, [.ref q_2, .int 1, .int (mo + 1)])), (q_2, .inl (cO, 10, .inr (.inr (.inr (.inr (va_up (fun _ => none) (0 : Int32).toNatClampNeg (some q_1))))))), (q_1, .inr (2, [.long x0.toInt64, .long y0.toInt64, .long ((x1 - x0).toInt64), .long ((y1 - y0).toInt64), .long wd.toInt64]))] H := hP
      have hD : va_D A [(h0, .inr (0, [.ref ta, .ref ra, .int wet, .int less, .ref px, .ref py, .int pn, .ref qx, .ref qy, .int qn, .ref ml])), (ml, .inr (4, [.ref q_2, .int 1, .int (mo + 1)])), (q_2, .inl (cO, 10, .inr (.inr (.inr (.inr (va_up (fun _ => none) (0 : Int32).toNatClampNeg (some q_1))))))), (q_1, .inr (2, [.long x0.toInt64, .long y0.toInt64, .long ((x1 - x0).toInt64), .long ((y1 - y0).toInt64), .long wd.toInt64]))] := hD
      refine W.widen (k := 2) (n := 15) (by omega) (by omega) ?_
      refine lv_pop hx hb dN_member_119 rfl ?_
      refine lv_aload_n hx hb dN_member_120 rfl (lv_at hl 0 rfl) ?_
      refine va_get (D := (dC, dI)) (ci := 0) (v := .ref ml) (C := xR_N) (T := xF_N) (N := 11) hx hb hts xi_N hown hK hP 0 rfl rfl 10 (by decide) (hts _ xk_124) (fun _ h9 => h9) rfl dN_member_121 ?_
      refine xb_rd (W.runV (C := "java/util/ArrayList") (As := []) (rest := []) ⟨hx, hb, hml, hown, hts⟩ (cA_size l E ml ([.ref q_2, .int 1, .int (mo + 1)]) 1 rfl) (cwV 0 hts (xb_gi (List.forall_mem_cons.mpr ⟨xk_513, List.forall_mem_cons.mpr ⟨xk_514, List.forall_mem_cons.mpr ⟨xk_515, List.forall_mem_cons.mpr ⟨xk_44, List.forall_mem_cons.mpr ⟨xk_516, fun _ h => absurd h List.not_mem_nil⟩⟩⟩⟩⟩)) rfl rfl rfl (by decide +kernel) ⟨Nat.le_of_ble_eq_true rfl, Nat.le_of_ble_eq_true rfl⟩) ⟨fun _ _ _ _ q => q, va_recv hK hP (ci := 4) (q0 := 1) rfl rfl, fun U hU hW => ⟨rfl, xb_atS hAt hS hA0 hU hW, by rw [hU]; exact hP.sub (ws' := [(ml, .inr (4, [.ref q_2, .int 1, .int (mo + 1)]))]) [1] rfl⟩⟩ rfl rfl hl.1 rfl (lv_room (Nat.le_of_ble_eq_true rfl)) dN_member_124 ⟨Nat.le_of_ble_eq_true rfl, Nat.le_of_ble_eq_true rfl⟩) ?_
      refine lv_iconst (v := 1) hx hb dN_member_127 (by decide) ?_
      refine lv_isub hx hb dN_member_128 ?_
      have e_0 : gN_member_f x0 y0 x1 y1 wd = ((fA_size (1)) - 1) := (if_neg c_1).trans (rfl)
      have hP9 := hP.sub (ws' := [(h0, .inr (0, [.ref ta, .ref ra, .int wet, .int less, .ref px, .ref py, .int pn, .ref qx, .ref qy, .int qn, .ref ml])), (ml, .inr (4, [.ref q_2, .int 1, .int (mo + 1)])), (q_2, .inl (cO, 10, .inr (.inr (.inr (.inr (va_up (fun _ => none) (0 : Int32).toNatClampNeg (some q_1))))))), (q_1, .inr (2, [.long x0.toInt64, .long y0.toInt64, .long ((x1 - x0).toInt64), .long ((y1 - y0).toInt64), .long wd.toInt64]))]) [0, 1, 2, 3] rfl
      have hD9 := hD.sub (ws' := [(h0, .inr (0, [.ref ta, .ref ra, .int wet, .int less, .ref px, .ref py, .int pn, .ref qx, .ref qy, .int qn, .ref ml])), (ml, .inr (4, [.ref q_2, .int 1, .int (mo + 1)])), (q_2, .inl (cO, 10, .inr (.inr (.inr (.inr (va_up (fun _ => none) (0 : Int32).toNatClampNeg (some q_1))))))), (q_1, .inr (2, [.long x0.toInt64, .long y0.toInt64, .long ((x1 - x0).toInt64), .long ((y1 - y0).toInt64), .long wd.toInt64]))]) [0, 1, 2, 3] (by decide) rfl
      refine W.widen (k := 2) (n := 15) (by omega) (by omega) ?_
      exact W.iret (v := ((fA_size (1)) - 1)) hx hb hr (fun t ht hW => ⟨_, _, rfl, ⟨q_1, q_2, by first | rfl | (simp only [e_0]; try rfl), by first | rfl | (simp only [e_0]; try rfl)⟩, by rw [ht]; exact hP9, hD9, hS.F ht⟩) hS.2.2 dN_member_129
    · first | exact absurd ⟨(by assumption), (by assumption)⟩ hne | exact absurd (show fA_size 0 < 6 by decide) (by assumption)
  · refine lv_iload_n hx hb dN_member_50 rfl (lv_at hl 2 rfl) ?_
    refine lv_iload hx hb dN_member_51 (lv_at hl 4 rfl) ?_
    refine lv_icmp_ne (tgt := 66) hx hb dN_member_53 (by decide) (fun c_3 => ?_) (fun c_3 => ?_)
    · refine lv_iload hx hb dN_member_66 (lv_at hl 5 rfl) ?_
      refine lv_i2l hx hb dN_member_68 rfl ?_
      refine lv_lconst (v := 1) hx hb dN_member_69 (by decide) ?_
      refine lv_ldc2 (v := 10000) hx hb hown (hts _ xk_511) dN_member_70 ?_
      refine xb_rd (W.runS (As := [.long wd.toInt64, .long 1, .long 10000]) (rest := []) ⟨hx, hb, hml, hown, hts⟩ (cN_requireWithin l E wd.toInt64 1 10000 (va) (vb)) (cwS 3 hts (xb_gi (List.forall_mem_cons.mpr ⟨xk_371, List.forall_mem_cons.mpr ⟨xk_372, List.forall_mem_cons.mpr ⟨xk_40, List.forall_mem_cons.mpr ⟨xk_373, fun _ h => absurd h List.not_mem_nil⟩⟩⟩⟩)) rfl rfl rfl (by decide +kernel) ⟨Nat.le_of_ble_eq_true rfl, Nat.le_of_ble_eq_true rfl⟩) ⟨fun _ _ _ _ q => q, fun U hU hW => ⟨rfl, xb_atS hAt hS hA0 hU hW, fun k q h => by simp at h⟩⟩ rfl rfl hl.1 rfl (lv_room (Nat.le_of_ble_eq_true rfl)) dN_member_73 ⟨Nat.zero_le _, Nat.zero_le _⟩) ?_
      refine lv_aload_n hx hb dN_member_76 rfl (lv_at hl 0 rfl) ?_
      refine va_get (D := (dC, dI)) (ci := 0) (v := .ref ml) (C := xR_N) (T := xF_N) (N := 11) hx hb hts xi_N hown hK hP 0 rfl rfl 10 (by decide) (hts _ xk_124) (fun _ h9 => h9) rfl dN_member_77 ?_
      refine xb_rd (W.runV (C := "java/util/ArrayList") (As := []) (rest := []) ⟨hx, hb, hml, hown, hts⟩ (cA_size l E ml ([.ref d0, .int 0, .int mo]) 0 rfl) (cwV 0 hts (xb_gi (List.forall_mem_cons.mpr ⟨xk_513, List.forall_mem_cons.mpr ⟨xk_514, List.forall_mem_cons.mpr ⟨xk_515, List.forall_mem_cons.mpr ⟨xk_44, List.forall_mem_cons.mpr ⟨xk_516, fun _ h => absurd h List.not_mem_nil⟩⟩⟩⟩⟩)) rfl rfl rfl (by decide +kernel) ⟨Nat.le_of_ble_eq_true rfl, Nat.le_of_ble_eq_true rfl⟩) ⟨fun _ _ _ _ q => q, va_recv hK hP (ci := 4) (q0 := 1) rfl rfl, fun U hU hW => ⟨rfl, xb_atS hAt hS hA0 hU hW, by rw [hU]; exact hP.sub (ws' := [(ml, .inr (4, [.ref d0, .int 0, .int mo]))]) [1] rfl⟩⟩ rfl rfl hl.1 rfl (lv_room (Nat.le_of_ble_eq_true rfl)) dN_member_80 ⟨Nat.zero_le _, Nat.zero_le _⟩) ?_
      refine lv_bipush (v := 6) hx hb dN_member_83 (by decide) ?_
      refine lv_icmp_lt (tgt := 98) hx hb dN_member_85 (by decide) (fun c_4 => ?_) (fun c_4 => ?_)
      · refine lv_aload_n hx hb dN_member_98 rfl (lv_at hl 0 rfl) ?_
        refine va_get (D := (dC, dI)) (ci := 0) (v := .ref ml) (C := xR_N) (T := xF_N) (N := 11) hx hb hts xi_N hown hK hP 0 rfl rfl 10 (by decide) (hts _ xk_124) (fun _ h9 => h9) rfl dN_member_99 ?_
        refine va_new (ci := 2) (fs := [.long 0, .long 0, .long 0, .long 0, .long 0]) (C := xR_M) (T := xF_M) (N := 5) hx hb hts xi_M xt_M xt_M_ok hown (hts _ xk_518) (hts _ xk_519) (hts _ xk_57) hK hP hD hS hA rfl (fun j hj => by rcases (show j = 0 ∨ j = 1 ∨ j = 2 ∨ j = 3 ∨ j = 4 by omega) with rfl | rfl | rfl | rfl | rfl <;> rfl) (Nat.le_of_ble_eq_true rfl) (Nat.le_of_ble_eq_true rfl) dN_member_102 (fun q_1 H hP hD hS => ?_)
        have hP : va_P (dC, dI) classes [(h0, .inr (0, [.ref ta, .ref ra, .int wet, .int less, .ref px, .ref py, .int pn, .ref qx, .ref qy, .int qn, .ref ml])), (ml, .inr (4, [.ref d0, .int 0, .int mo])), (q_1, .inr (2, [.long 0, .long 0, .long 0, .long 0, .long 0]))] H := hP
        have hD : va_D A [(h0, .inr (0, [.ref ta, .ref ra, .int wet, .int less, .ref px, .ref py, .int pn, .ref qx, .ref qy, .int qn, .ref ml])), (ml, .inr (4, [.ref d0, .int 0, .int mo])), (q_1, .inr (2, [.long 0, .long 0, .long 0, .long 0, .long 0]))] := hD
        refine W.widen (k := 1) (n := 5) (by omega) (by omega) ?_
        refine lv_dup hx hb dN_member_105 rfl ?_
        refine lv_iload_n hx hb dN_member_106 rfl (lv_at hl 1 rfl) ?_
        refine lv_iload_n hx hb dN_member_107 rfl (lv_at hl 2 rfl) ?_
        refine lv_iload_n hx hb dN_member_108 rfl (lv_at hl 3 rfl) ?_
        refine lv_iload hx hb dN_member_109 (lv_at hl 4 rfl) ?_
        refine lv_iload hx hb dN_member_111 (lv_at hl 5 rfl) ?_
        refine xb_wr (wr := [(h0, .inr (0, [.ref ta, .ref ra, .int wet, .int less, .ref px, .ref py, .int pn, .ref qx, .ref qy, .int qn, .ref ml])), (ml, .inr (4, [.ref d0, .int 0, .int mo]))]) (va_runIN (As := [.int x0, .int y0, .int x1, .int y1, .int wd]) (rest := [.ref q_1, .ref ml]) ⟨hx, hb, hml, hown, hts⟩ (cM_init l E _ q_1 x0 y0 x1 y1 wd) ⟨va_cnB 5 hts (xb_gi (List.forall_mem_cons.mpr ⟨xk_522, fun _ h => absurd h List.not_mem_nil⟩)) rfl rfl rfl (xb_nest E hAt xk_520) (hts _ xk_57) (by decide +kernel) ⟨Nat.le_of_ble_eq_true rfl, Nat.le_of_ble_eq_true rfl⟩, rfl, hts _ xk_521⟩ ⟨fun _ _ _ _ q => q, fun U hU hW => ⟨rfl, xb_atS hAt hS hA0 hU hW, by rw [hU], by rw [hU]; exact hP.sub (ws' := [(q_1, .inr (2, [.long 0, .long 0, .long 0, .long 0, .long 0]))]) [2] rfl, (hD.sub (ws' := [(q_1, .inr (2, [.long 0, .long 0, .long 0, .long 0, .long 0]))]) [2] (by decide) rfl).weaken (fun _ q _ h => hA0 q.1 h)⟩⟩ rfl rfl hl.1 rfl (lv_room (Nat.le_of_ble_eq_true rfl)) dN_member_113 ⟨Nat.le_of_ble_eq_true rfl, Nat.le_of_ble_eq_true rfl⟩) hP hD hS hA [2] [0, 1] rfl rfl (by decide) (by decide) ?_
        rintro _ _ H locs ⟨rfl, rfl⟩ hP hD hS
        have hP : va_P (dC, dI) classes [(h0, .inr (0, [.ref ta, .ref ra, .int wet, .int less, .ref px, .ref py, .int pn, .ref qx, .ref qy, .int qn, .ref ml])), (ml, .inr (4, [.ref d0, .int 0, .int mo])), (q_1, .inr (2, [.long x0.toInt64, .long y0.toInt64, .long ((x1 - x0).toInt64), .long ((y1 - y0).toInt64), .long wd.toInt64]))] H := hP
        have hD : va_D A [(h0, .inr (0, [.ref ta, .ref ra, .int wet, .int less, .ref px, .ref py, .int pn, .ref qx, .ref qy, .int qn, .ref ml])), (ml, .inr (4, [.ref d0, .int 0, .int mo])), (q_1, .inr (2, [.long x0.toInt64, .long y0.toInt64, .long ((x1 - x0).toInt64), .long ((y1 - y0).toInt64), .long wd.toInt64]))] := hD
        refine xb_wr (wr := [(h0, .inr (0, [.ref ta, .ref ra, .int wet, .int less, .ref px, .ref py, .int pn, .ref qx, .ref qy, .int qn, .ref ml]))]) (va_runV (C := "java/util/ArrayList") (As := [.ref q_1]) (rest := []) ⟨hx, hb, hml, hown, hts⟩ (cA_add_f l E _ ml q_1 mo x0.toInt64 y0.toInt64 ((x1 - x0).toInt64) ((y1 - y0).toInt64) wd.toInt64 (hZ)) (cwV 1 hts (xb_gi (List.forall_mem_cons.mpr ⟨xk_540, List.forall_mem_cons.mpr ⟨xk_541, List.forall_mem_cons.mpr ⟨xk_542, List.forall_mem_cons.mpr ⟨xk_44, List.forall_mem_cons.mpr ⟨xk_543, fun _ h => absurd h List.not_mem_nil⟩⟩⟩⟩⟩)) rfl rfl rfl (by decide +kernel) ⟨Nat.le_of_ble_eq_true rfl, Nat.le_of_ble_eq_true rfl⟩) ⟨fun _ _ _ _ q => q, va_recv hK hP (ci := 4) (q0 := 1) rfl rfl, fun U hU hW => ⟨rfl, xb_atS hAt hS hA0 hU hW, by rw [hU], by rw [hU]; exact hP.sub (ws' := [(ml, .inr (4, [.ref d0, .int 0, .int mo])), (q_1, .inr (2, [.long x0.toInt64, .long y0.toInt64, .long ((x1 - x0).toInt64), .long ((y1 - y0).toInt64), .long wd.toInt64]))]) [1, 2] rfl, (hD.sub (ws' := [(ml, .inr (4, [.ref d0, .int 0, .int mo])), (q_1, .inr (2, [.long x0.toInt64, .long y0.toInt64, .long ((x1 - x0).toInt64), .long ((y1 - y0).toInt64), .long wd.toInt64]))]) [1, 2] (by decide) rfl).weaken (fun _ q _ h => hA0 q.1 h)⟩⟩ rfl rfl hl.1 rfl (lv_room (Nat.le_of_ble_eq_true rfl)) dN_member_116 ⟨Nat.le_of_ble_eq_true rfl, Nat.le_of_ble_eq_true rfl⟩) hP hD hS hA [1, 2] [0] rfl rfl (by decide) (by decide) ?_
        rintro _ _ H locs ⟨q_2, rfl, rfl⟩ hP hD hS
        have hP : va_P (dC, dI) classes [(h0, .inr (0, [.ref ta, .ref ra, .int wet, .int less, .ref px, .ref py, .int pn, .ref qx, .ref qy, .int qn, .ref ml])), (ml, .inr (4, [.ref q_2, .int 1, .int (mo + 1)])), (q_2, .inl (cO, 10, .inr (.inr (.inr (.inr (va_up (fun _ => none) (0 : Int32).toNatClampNeg (some q_1))))))), (q_1, .inr (2, [.long x0.toInt64, .long y0.toInt64, .long ((x1 - x0).toInt64), .long ((y1 - y0).toInt64), .long wd.toInt64]))] H := hP
        have hD : va_D A [(h0, .inr (0, [.ref ta, .ref ra, .int wet, .int less, .ref px, .ref py, .int pn, .ref qx, .ref qy, .int qn, .ref ml])), (ml, .inr (4, [.ref q_2, .int 1, .int (mo + 1)])), (q_2, .inl (cO, 10, .inr (.inr (.inr (.inr (va_up (fun _ => none) (0 : Int32).toNatClampNeg (some q_1))))))), (q_1, .inr (2, [.long x0.toInt64, .long y0.toInt64, .long ((x1 - x0).toInt64), .long ((y1 - y0).toInt64), .long wd.toInt64]))] := hD
        refine W.widen (k := 2) (n := 15) (by omega) (by omega) ?_
        refine lv_pop hx hb dN_member_119 rfl ?_
        refine lv_aload_n hx hb dN_member_120 rfl (lv_at hl 0 rfl) ?_
        refine va_get (D := (dC, dI)) (ci := 0) (v := .ref ml) (C := xR_N) (T := xF_N) (N := 11) hx hb hts xi_N hown hK hP 0 rfl rfl 10 (by decide) (hts _ xk_124) (fun _ h9 => h9) rfl dN_member_121 ?_
        refine xb_rd (W.runV (C := "java/util/ArrayList") (As := []) (rest := []) ⟨hx, hb, hml, hown, hts⟩ (cA_size l E ml ([.ref q_2, .int 1, .int (mo + 1)]) 1 rfl) (cwV 0 hts (xb_gi (List.forall_mem_cons.mpr ⟨xk_513, List.forall_mem_cons.mpr ⟨xk_514, List.forall_mem_cons.mpr ⟨xk_515, List.forall_mem_cons.mpr ⟨xk_44, List.forall_mem_cons.mpr ⟨xk_516, fun _ h => absurd h List.not_mem_nil⟩⟩⟩⟩⟩)) rfl rfl rfl (by decide +kernel) ⟨Nat.le_of_ble_eq_true rfl, Nat.le_of_ble_eq_true rfl⟩) ⟨fun _ _ _ _ q => q, va_recv hK hP (ci := 4) (q0 := 1) rfl rfl, fun U hU hW => ⟨rfl, xb_atS hAt hS hA0 hU hW, by rw [hU]; exact hP.sub (ws' := [(ml, .inr (4, [.ref q_2, .int 1, .int (mo + 1)]))]) [1] rfl⟩⟩ rfl rfl hl.1 rfl (lv_room (Nat.le_of_ble_eq_true rfl)) dN_member_124 ⟨Nat.le_of_ble_eq_true rfl, Nat.le_of_ble_eq_true rfl⟩) ?_
        refine lv_iconst (v := 1) hx hb dN_member_127 (by decide) ?_
        refine lv_isub hx hb dN_member_128 ?_
        have e_0 : gN_member_f x0 y0 x1 y1 wd = ((fA_size (1)) - 1) := (if_pos c_1).trans (rfl)
        have hP9 := hP.sub (ws' := [(h0, .inr (0, [.ref ta, .ref ra, .int wet, .int less, .ref px, .ref py, .int pn, .ref qx, .ref qy, .int qn, .ref ml])), (ml, .inr (4, [.ref q_2, .int 1, .int (mo + 1)])), (q_2, .inl (cO, 10, .inr (.inr (.inr (.inr (va_up (fun _ => none) (0 : Int32).toNatClampNeg (some q_1))))))), (q_1, .inr (2, [.long x0.toInt64, .long y0.toInt64, .long ((x1 - x0).toInt64), .long ((y1 - y0).toInt64), .long wd.toInt64]))]) [0, 1, 2, 3] rfl
        have hD9 := hD.sub (ws' := [(h0, .inr (0, [.ref ta, .ref ra, .int wet, .int less, .ref px, .ref py, .int pn, .ref qx, .ref qy, .int qn, .ref ml])), (ml, .inr (4, [.ref q_2, .int 1, .int (mo + 1)])), (q_2, .inl (cO, 10, .inr (.inr (.inr (.inr (va_up (fun _ => none) (0 : Int32).toNatClampNeg (some q_1))))))), (q_1, .inr (2, [.long x0.toInt64, .long y0.toInt64, .long ((x1 - x0).toInt64), .long ((y1 - y0).toInt64), .long wd.toInt64]))]) [0, 1, 2, 3] (by decide) rfl
        refine W.widen (k := 2) (n := 15) (by omega) (by omega) ?_
        exact W.iret (v := ((fA_size (1)) - 1)) hx hb hr (fun t ht hW => ⟨_, _, rfl, ⟨q_1, q_2, by first | rfl | (simp only [e_0]; try rfl), by first | rfl | (simp only [e_0]; try rfl)⟩, by rw [ht]; exact hP9, hD9, hS.F ht⟩) hS.2.2 dN_member_129
      · first | exact absurd ⟨(by assumption), (by assumption)⟩ hne | exact absurd (show fA_size 0 < 6 by decide) (by assumption)
    · first | exact absurd ⟨(by assumption), (by assumption)⟩ hne | exact absurd (show fA_size 0 < 6 by decide) (by assumption)

def gN_member_m (sn : Int32) (x0 : Int32) (y0 : Int32) (x1 : Int32) (y1 : Int32) (wd : Int32) : Int32 := if x0 = x1 then ((fA_size (sn + 1)) - 1) else ((fA_size (sn + 1)) - 1)
set_option maxHeartbeats 4000000 in
set_option maxRecDepth 100000 in
theorem cN_member_m (l : Launch) {s0 : State} {dC : Nat → ClassId} {dI : Nat → Nat → Nat} {cI cC cL cO : ClassId} (E : xb_Env l s0 dC dI (xtys cI cC cL cO)) (sz : Nat) (h0 : Nat) (ml : Nat) (ed : Nat) (ta : Nat) (ra : Nat) (wet : Int32) (less : Int32) (px : Nat) (py : Nat) (pn : Int32) (qx : Nat) (qy : Nat) (qn : Int32) (sn : Int32) (mo : Int32) (ef : Nat → Option Nat) (x0 : Int32) (y0 : Int32) (x1 : Int32) (y1 : Int32) (wd : Int32) (ua : ¬ x0.toInt64 < (-10000)) (ub : x0.toInt64 ≤ 10000) (wa : ¬ y0.toInt64 < (-10000)) (wb : y0.toInt64 ≤ 10000) (ga : ¬ x1.toInt64 < (-10000)) (gb : x1.toInt64 ≤ 10000) (qa : ¬ y1.toInt64 < (-10000)) (qb : y1.toInt64 ≤ 10000) (hne : ¬ (x0 = x1 ∧ y0 = y1)) (va : ¬ wd.toInt64 < 1) (vb : wd.toInt64 ≤ 10000) (hs6 : fA_size sn < 6) (hs : vp_in sn 10) : Met l yN_member [.code yN_member bN_member 6 (some (.int))] ({ frames := 2, cells := 1, slots := 5, locals := 44 }) (va_Pc [.ref h0, .int x0, .int y0, .int x1, .int y1, .int wd] (fun U => xb_At s0 U ∧ U.heap.size = sz ∧ va_P (dC, dI) classes [(h0, .inr (0, [.ref ta, .ref ra, .int wet, .int less, .ref px, .ref py, .int pn, .ref qx, .ref qy, .int qn, .ref ml])), (ml, .inr (4, [.ref ed, .int sn, .int mo])), (ed, .inl (cO, 10, .inr (.inr (.inr (.inr ef)))))] U.heap ∧ va_D (fun q => s0.heap.size ≤ q) [(h0, .inr (0, [.ref ta, .ref ra, .int wet, .int less, .ref px, .ref py, .int pn, .ref qx, .ref qy, .int qn, .ref ml])), (ml, .inr (4, [.ref ed, .int sn, .int mo])), (ed, .inl (cO, 10, .inr (.inr (.inr (.inr ef)))))])) (xb_W (dC, dI) (fun v9 w9 => ∃ q_1 : Nat, v9 = some (.int (gN_member_m sn x0 y0 x1 y1 wd)) ∧ w9 = [(h0, .inr (0, [.ref ta, .ref ra, .int wet, .int less, .ref px, .ref py, .int pn, .ref qx, .ref qy, .int qn, .ref ml])), (ml, .inr (4, [.ref ed, .int (sn + 1), .int (mo + 1)])), (ed, .inl (cO, 10, .inr (.inr (.inr (.inr (va_up ef sn.toNatClampNeg (some q_1))))))), (q_1, .inr (2, [.long x0.toInt64, .long y0.toInt64, .long ((x1 - x0).toInt64), .long ((y1 - y0).toInt64), .long wd.toInt64]))]) (va_A [(h0, .inr (0, [.ref ta, .ref ra, .int wet, .int less, .ref px, .ref py, .int pn, .ref qx, .ref qy, .int qn, .ref ml])), (ml, .inr (4, [.ref ed, .int sn, .int mo])), (ed, .inl (cO, 10, .inr (.inr (.inr (.inr ef)))))] sz)) 1 5 (va_A [(h0, .inr (0, [.ref ta, .ref ra, .int wet, .int less, .ref px, .ref py, .int pn, .ref qx, .ref qy, .int qn, .ref ml])), (ml, .inr (4, [.ref ed, .int sn, .int mo])), (ed, .inl (cO, 10, .inr (.inr (.inr (.inr ef)))))] sz) := by
  refine Met.ofW (cc := bN_member) (maxL := 6) (ret := (some (.int))) (by decide) rfl ?_
  intro p e s m args below meth c s₁ B hml hv
  obtain ⟨rfl, hAt, hsz, hP, hD0⟩ := hv
  have hx := B.exec
  have hb := B.bytes
  have hr := B.returns
  have hts := xb_hts E hAt ([.ref h0, .int x0, .int y0, .int x1, .int y1, .int wd] : List Value).toArray
  have hown : s.vm.findClass "NailRules" = some m.cls := findClass_of_methodNamed B.named
  have hlocks := B.notSynchronized
  have hK := xb_K E hAt
  subst hsz
  have hA0 := xb_A0 hAt hD0
  have hD := hD0.self (sz := s.heap.size)
  generalize hAe : va_A [(h0, .inr (0, [.ref ta, .ref ra, .int wet, .int less, .ref px, .ref py, .int pn, .ref qx, .ref qy, .int qn, .ref ml])), (ml, .inr (4, [.ref ed, .int sn, .int mo])), (ed, .inl (cO, 10, .inr (.inr (.inr (.inr ef)))))] s.heap.size = A at hD hA0 ⊢
  have hA : ∀ q : Nat, s.heap.size ≤ q → A q := fun q h => by rw [← hAe]; exact Or.inr h
  have hS : va_S A s.heap s.heap [] := va_S.rf
  have hl := lv_entry ([.ref h0, .int x0, .int y0, .int x1, .int y1, .int wd]) (n := 6) (Nat.le_of_ble_eq_true rfl)
  rw [lg_entry_eq]
  generalize (lg_sl ([.ref h0, .int x0, .int y0, .int x1, .int y1, .int wd]) ++ List.replicate (6 - (lg_sl ([.ref h0, .int x0, .int y0, .int x1, .int y1, .int wd])).length) Slot.unset).toArray = ls at hl ⊢
  have hl : lv_has ls 6 [(0, .ref h0), (1, .int x0), (2, .int y0), (3, .int x1), (4, .int y1), (5, .int wd)] := hl
  refine lv_iload_n hx hb dN_member_0 rfl (lv_at hl 1 rfl) ?_
  refine lv_i2l hx hb dN_member_1 rfl ?_
  refine lv_ldc2 (v := (-10000)) hx hb hown (hts _ xk_510) dN_member_2 ?_
  refine lv_ldc2 (v := 10000) hx hb hown (hts _ xk_511) dN_member_5 ?_
  refine xb_rd (W.runS (As := [.long x0.toInt64, .long (-10000), .long 10000]) (rest := []) ⟨hx, hb, hml, hown, hts⟩ (cN_requireWithin l E x0.toInt64 (-10000) 10000 (ua) (ub)) (cwS 3 hts (xb_gi (List.forall_mem_cons.mpr ⟨xk_371, List.forall_mem_cons.mpr ⟨xk_372, List.forall_mem_cons.mpr ⟨xk_40, List.forall_mem_cons.mpr ⟨xk_373, fun _ h => absurd h List.not_mem_nil⟩⟩⟩⟩)) rfl rfl rfl (by decide +kernel) ⟨Nat.le_of_ble_eq_true rfl, Nat.le_of_ble_eq_true rfl⟩) ⟨fun _ _ _ _ q => q, fun U hU hW => ⟨rfl, xb_atS hAt hS hA0 hU hW, fun k q h => by simp at h⟩⟩ rfl rfl hl.1 rfl (lv_room (Nat.le_of_ble_eq_true rfl)) dN_member_8 ⟨Nat.zero_le _, Nat.zero_le _⟩) ?_
  refine lv_iload_n hx hb dN_member_11 rfl (lv_at hl 2 rfl) ?_
  refine lv_i2l hx hb dN_member_12 rfl ?_
  refine lv_ldc2 (v := (-10000)) hx hb hown (hts _ xk_510) dN_member_13 ?_
  refine lv_ldc2 (v := 10000) hx hb hown (hts _ xk_511) dN_member_16 ?_
  refine xb_rd (W.runS (As := [.long y0.toInt64, .long (-10000), .long 10000]) (rest := []) ⟨hx, hb, hml, hown, hts⟩ (cN_requireWithin l E y0.toInt64 (-10000) 10000 (wa) (wb)) (cwS 3 hts (xb_gi (List.forall_mem_cons.mpr ⟨xk_371, List.forall_mem_cons.mpr ⟨xk_372, List.forall_mem_cons.mpr ⟨xk_40, List.forall_mem_cons.mpr ⟨xk_373, fun _ h => absurd h List.not_mem_nil⟩⟩⟩⟩)) rfl rfl rfl (by decide +kernel) ⟨Nat.le_of_ble_eq_true rfl, Nat.le_of_ble_eq_true rfl⟩) ⟨fun _ _ _ _ q => q, fun U hU hW => ⟨rfl, xb_atS hAt hS hA0 hU hW, fun k q h => by simp at h⟩⟩ rfl rfl hl.1 rfl (lv_room (Nat.le_of_ble_eq_true rfl)) dN_member_19 ⟨Nat.zero_le _, Nat.zero_le _⟩) ?_
  refine lv_iload_n hx hb dN_member_22 rfl (lv_at hl 3 rfl) ?_
  refine lv_i2l hx hb dN_member_23 rfl ?_
  refine lv_ldc2 (v := (-10000)) hx hb hown (hts _ xk_510) dN_member_24 ?_
  refine lv_ldc2 (v := 10000) hx hb hown (hts _ xk_511) dN_member_27 ?_
  refine xb_rd (W.runS (As := [.long x1.toInt64, .long (-10000), .long 10000]) (rest := []) ⟨hx, hb, hml, hown, hts⟩ (cN_requireWithin l E x1.toInt64 (-10000) 10000 (ga) (gb)) (cwS 3 hts (xb_gi (List.forall_mem_cons.mpr ⟨xk_371, List.forall_mem_cons.mpr ⟨xk_372, List.forall_mem_cons.mpr ⟨xk_40, List.forall_mem_cons.mpr ⟨xk_373, fun _ h => absurd h List.not_mem_nil⟩⟩⟩⟩)) rfl rfl rfl (by decide +kernel) ⟨Nat.le_of_ble_eq_true rfl, Nat.le_of_ble_eq_true rfl⟩) ⟨fun _ _ _ _ q => q, fun U hU hW => ⟨rfl, xb_atS hAt hS hA0 hU hW, fun k q h => by simp at h⟩⟩ rfl rfl hl.1 rfl (lv_room (Nat.le_of_ble_eq_true rfl)) dN_member_30 ⟨Nat.zero_le _, Nat.zero_le _⟩) ?_
  refine lv_iload hx hb dN_member_33 (lv_at hl 4 rfl) ?_
  refine lv_i2l hx hb dN_member_35 rfl ?_
  refine lv_ldc2 (v := (-10000)) hx hb hown (hts _ xk_510) dN_member_36 ?_
  refine lv_ldc2 (v := 10000) hx hb hown (hts _ xk_511) dN_member_39 ?_
  refine xb_rd (W.runS (As := [.long y1.toInt64, .long (-10000), .long 10000]) (rest := []) ⟨hx, hb, hml, hown, hts⟩ (cN_requireWithin l E y1.toInt64 (-10000) 10000 (qa) (qb)) (cwS 3 hts (xb_gi (List.forall_mem_cons.mpr ⟨xk_371, List.forall_mem_cons.mpr ⟨xk_372, List.forall_mem_cons.mpr ⟨xk_40, List.forall_mem_cons.mpr ⟨xk_373, fun _ h => absurd h List.not_mem_nil⟩⟩⟩⟩)) rfl rfl rfl (by decide +kernel) ⟨Nat.le_of_ble_eq_true rfl, Nat.le_of_ble_eq_true rfl⟩) ⟨fun _ _ _ _ q => q, fun U hU hW => ⟨rfl, xb_atS hAt hS hA0 hU hW, fun k q h => by simp at h⟩⟩ rfl rfl hl.1 rfl (lv_room (Nat.le_of_ble_eq_true rfl)) dN_member_42 ⟨Nat.zero_le _, Nat.zero_le _⟩) ?_
  refine lv_iload_n hx hb dN_member_45 rfl (lv_at hl 1 rfl) ?_
  refine lv_iload_n hx hb dN_member_46 rfl (lv_at hl 3 rfl) ?_
  refine lv_icmp_ne (tgt := 66) hx hb dN_member_47 (by decide) (fun c_1 => ?_) (fun c_1 => ?_)
  · refine lv_iload hx hb dN_member_66 (lv_at hl 5 rfl) ?_
    refine lv_i2l hx hb dN_member_68 rfl ?_
    refine lv_lconst (v := 1) hx hb dN_member_69 (by decide) ?_
    refine lv_ldc2 (v := 10000) hx hb hown (hts _ xk_511) dN_member_70 ?_
    refine xb_rd (W.runS (As := [.long wd.toInt64, .long 1, .long 10000]) (rest := []) ⟨hx, hb, hml, hown, hts⟩ (cN_requireWithin l E wd.toInt64 1 10000 (va) (vb)) (cwS 3 hts (xb_gi (List.forall_mem_cons.mpr ⟨xk_371, List.forall_mem_cons.mpr ⟨xk_372, List.forall_mem_cons.mpr ⟨xk_40, List.forall_mem_cons.mpr ⟨xk_373, fun _ h => absurd h List.not_mem_nil⟩⟩⟩⟩)) rfl rfl rfl (by decide +kernel) ⟨Nat.le_of_ble_eq_true rfl, Nat.le_of_ble_eq_true rfl⟩) ⟨fun _ _ _ _ q => q, fun U hU hW => ⟨rfl, xb_atS hAt hS hA0 hU hW, fun k q h => by simp at h⟩⟩ rfl rfl hl.1 rfl (lv_room (Nat.le_of_ble_eq_true rfl)) dN_member_73 ⟨Nat.zero_le _, Nat.zero_le _⟩) ?_
    refine lv_aload_n hx hb dN_member_76 rfl (lv_at hl 0 rfl) ?_
    refine va_get (D := (dC, dI)) (ci := 0) (v := .ref ml) (C := xR_N) (T := xF_N) (N := 11) hx hb hts xi_N hown hK hP 0 rfl rfl 10 (by decide) (hts _ xk_124) (fun _ h9 => h9) rfl dN_member_77 ?_
    refine xb_rd (W.runV (C := "java/util/ArrayList") (As := []) (rest := []) ⟨hx, hb, hml, hown, hts⟩ (cA_size l E ml ([.ref ed, .int sn, .int mo]) sn rfl) (cwV 0 hts (xb_gi (List.forall_mem_cons.mpr ⟨xk_513, List.forall_mem_cons.mpr ⟨xk_514, List.forall_mem_cons.mpr ⟨xk_515, List.forall_mem_cons.mpr ⟨xk_44, List.forall_mem_cons.mpr ⟨xk_516, fun _ h => absurd h List.not_mem_nil⟩⟩⟩⟩⟩)) rfl rfl rfl (by decide +kernel) ⟨Nat.le_of_ble_eq_true rfl, Nat.le_of_ble_eq_true rfl⟩) ⟨fun _ _ _ _ q => q, va_recv hK hP (ci := 4) (q0 := 1) rfl rfl, fun U hU hW => ⟨rfl, xb_atS hAt hS hA0 hU hW, by rw [hU]; exact hP.sub (ws' := [(ml, .inr (4, [.ref ed, .int sn, .int mo]))]) [1] rfl⟩⟩ rfl rfl hl.1 rfl (lv_room (Nat.le_of_ble_eq_true rfl)) dN_member_80 ⟨Nat.zero_le _, Nat.zero_le _⟩) ?_
    refine lv_bipush (v := 6) hx hb dN_member_83 (by decide) ?_
    refine lv_icmp_lt (tgt := 98) hx hb dN_member_85 (by decide) (fun c_2 => ?_) (fun c_2 => ?_)
    · refine lv_aload_n hx hb dN_member_98 rfl (lv_at hl 0 rfl) ?_
      refine va_get (D := (dC, dI)) (ci := 0) (v := .ref ml) (C := xR_N) (T := xF_N) (N := 11) hx hb hts xi_N hown hK hP 0 rfl rfl 10 (by decide) (hts _ xk_124) (fun _ h9 => h9) rfl dN_member_99 ?_
      refine va_new (ci := 2) (fs := [.long 0, .long 0, .long 0, .long 0, .long 0]) (C := xR_M) (T := xF_M) (N := 5) hx hb hts xi_M xt_M xt_M_ok hown (hts _ xk_518) (hts _ xk_519) (hts _ xk_57) hK hP hD hS hA rfl (fun j hj => by rcases (show j = 0 ∨ j = 1 ∨ j = 2 ∨ j = 3 ∨ j = 4 by omega) with rfl | rfl | rfl | rfl | rfl <;> rfl) (Nat.le_of_ble_eq_true rfl) (Nat.le_of_ble_eq_true rfl) dN_member_102 (fun q_1 H hP hD hS => ?_)
      have hP : va_P (dC, dI) classes [(h0, .inr (0, [.ref ta, .ref ra, .int wet, .int less, .ref px, .ref py, .int pn, .ref qx, .ref qy, .int qn, .ref ml])), (ml, .inr (4, [.ref ed, .int sn, .int mo])), (ed, .inl (cO, 10, .inr (.inr (.inr (.inr ef))))), (q_1, .inr (2, [.long 0, .long 0, .long 0, .long 0, .long 0]))] H := hP
      have hD : va_D A [(h0, .inr (0, [.ref ta, .ref ra, .int wet, .int less, .ref px, .ref py, .int pn, .ref qx, .ref qy, .int qn, .ref ml])), (ml, .inr (4, [.ref ed, .int sn, .int mo])), (ed, .inl (cO, 10, .inr (.inr (.inr (.inr ef))))), (q_1, .inr (2, [.long 0, .long 0, .long 0, .long 0, .long 0]))] := hD
      refine W.widen (k := 1) (n := 5) (by omega) (by omega) ?_
      refine lv_dup hx hb dN_member_105 rfl ?_
      refine lv_iload_n hx hb dN_member_106 rfl (lv_at hl 1 rfl) ?_
      refine lv_iload_n hx hb dN_member_107 rfl (lv_at hl 2 rfl) ?_
      refine lv_iload_n hx hb dN_member_108 rfl (lv_at hl 3 rfl) ?_
      refine lv_iload hx hb dN_member_109 (lv_at hl 4 rfl) ?_
      refine lv_iload hx hb dN_member_111 (lv_at hl 5 rfl) ?_
      refine xb_wr (wr := [(h0, .inr (0, [.ref ta, .ref ra, .int wet, .int less, .ref px, .ref py, .int pn, .ref qx, .ref qy, .int qn, .ref ml])), (ml, .inr (4, [.ref ed, .int sn, .int mo])), (ed, .inl (cO, 10, .inr (.inr (.inr (.inr ef)))))]) (va_runIN (As := [.int x0, .int y0, .int x1, .int y1, .int wd]) (rest := [.ref q_1, .ref ml]) ⟨hx, hb, hml, hown, hts⟩ (cM_init l E _ q_1 x0 y0 x1 y1 wd) ⟨va_cnB 5 hts (xb_gi (List.forall_mem_cons.mpr ⟨xk_522, fun _ h => absurd h List.not_mem_nil⟩)) rfl rfl rfl (xb_nest E hAt xk_520) (hts _ xk_57) (by decide +kernel) ⟨Nat.le_of_ble_eq_true rfl, Nat.le_of_ble_eq_true rfl⟩, rfl, hts _ xk_521⟩ ⟨fun _ _ _ _ q => q, fun U hU hW => ⟨rfl, xb_atS hAt hS hA0 hU hW, by rw [hU], by rw [hU]; exact hP.sub (ws' := [(q_1, .inr (2, [.long 0, .long 0, .long 0, .long 0, .long 0]))]) [3] rfl, (hD.sub (ws' := [(q_1, .inr (2, [.long 0, .long 0, .long 0, .long 0, .long 0]))]) [3] (by decide) rfl).weaken (fun _ q _ h => hA0 q.1 h)⟩⟩ rfl rfl hl.1 rfl (lv_room (Nat.le_of_ble_eq_true rfl)) dN_member_113 ⟨Nat.le_of_ble_eq_true rfl, Nat.le_of_ble_eq_true rfl⟩) hP hD hS hA [3] [0, 1, 2] rfl rfl (by decide) (by decide) ?_
      rintro _ _ H locs ⟨rfl, rfl⟩ hP hD hS
      have hP : va_P (dC, dI) classes [(h0, .inr (0, [.ref ta, .ref ra, .int wet, .int less, .ref px, .ref py, .int pn, .ref qx, .ref qy, .int qn, .ref ml])), (ml, .inr (4, [.ref ed, .int sn, .int mo])), (ed, .inl (cO, 10, .inr (.inr (.inr (.inr ef))))), (q_1, .inr (2, [.long x0.toInt64, .long y0.toInt64, .long ((x1 - x0).toInt64), .long ((y1 - y0).toInt64), .long wd.toInt64]))] H := hP
      have hD : va_D A [(h0, .inr (0, [.ref ta, .ref ra, .int wet, .int less, .ref px, .ref py, .int pn, .ref qx, .ref qy, .int qn, .ref ml])), (ml, .inr (4, [.ref ed, .int sn, .int mo])), (ed, .inl (cO, 10, .inr (.inr (.inr (.inr ef))))), (q_1, .inr (2, [.long x0.toInt64, .long y0.toInt64, .long ((x1 - x0).toInt64), .long ((y1 - y0).toInt64), .long wd.toInt64]))] := hD
      refine xb_wr (wr := [(h0, .inr (0, [.ref ta, .ref ra, .int wet, .int less, .ref px, .ref py, .int pn, .ref qx, .ref qy, .int qn, .ref ml]))]) (va_runV (C := "java/util/ArrayList") (As := [.ref q_1]) (rest := []) ⟨hx, hb, hml, hown, hts⟩ (cA_add_m l E _ ml ed q_1 sn mo ef x0.toInt64 y0.toInt64 ((x1 - x0).toInt64) ((y1 - y0).toInt64) wd.toInt64 (hs)) (cwV 1 hts (xb_gi (List.forall_mem_cons.mpr ⟨xk_540, List.forall_mem_cons.mpr ⟨xk_541, List.forall_mem_cons.mpr ⟨xk_542, List.forall_mem_cons.mpr ⟨xk_44, List.forall_mem_cons.mpr ⟨xk_543, fun _ h => absurd h List.not_mem_nil⟩⟩⟩⟩⟩)) rfl rfl rfl (by decide +kernel) ⟨Nat.le_of_ble_eq_true rfl, Nat.le_of_ble_eq_true rfl⟩) ⟨fun _ _ _ _ q => q, va_recv hK hP (ci := 4) (q0 := 1) rfl rfl, fun U hU hW => ⟨rfl, xb_atS hAt hS hA0 hU hW, by rw [hU], by rw [hU]; exact hP.sub (ws' := [(ml, .inr (4, [.ref ed, .int sn, .int mo])), (ed, .inl (cO, 10, .inr (.inr (.inr (.inr ef))))), (q_1, .inr (2, [.long x0.toInt64, .long y0.toInt64, .long ((x1 - x0).toInt64), .long ((y1 - y0).toInt64), .long wd.toInt64]))]) [1, 2, 3] rfl, (hD.sub (ws' := [(ml, .inr (4, [.ref ed, .int sn, .int mo])), (ed, .inl (cO, 10, .inr (.inr (.inr (.inr ef))))), (q_1, .inr (2, [.long x0.toInt64, .long y0.toInt64, .long ((x1 - x0).toInt64), .long ((y1 - y0).toInt64), .long wd.toInt64]))]) [1, 2, 3] (by decide) rfl).weaken (fun _ q _ h => hA0 q.1 h)⟩⟩ rfl rfl hl.1 rfl (lv_room (Nat.le_of_ble_eq_true rfl)) dN_member_116 ⟨Nat.le_of_ble_eq_true rfl, Nat.le_of_ble_eq_true rfl⟩) hP hD hS hA [1, 2, 3] [0] rfl rfl (by decide) (by decide) ?_
      rintro _ _ H locs ⟨rfl, rfl⟩ hP hD hS
      have hP : va_P (dC, dI) classes [(h0, .inr (0, [.ref ta, .ref ra, .int wet, .int less, .ref px, .ref py, .int pn, .ref qx, .ref qy, .int qn, .ref ml])), (ml, .inr (4, [.ref ed, .int (sn + 1), .int (mo + 1)])), (ed, .inl (cO, 10, .inr (.inr (.inr (.inr (va_up ef sn.toNatClampNeg (some q_1))))))), (q_1, .inr (2, [.long x0.toInt64, .long y0.toInt64, .long ((x1 - x0).toInt64), .long ((y1 - y0).toInt64), .long wd.toInt64]))] H := hP
      have hD : va_D A [(h0, .inr (0, [.ref ta, .ref ra, .int wet, .int less, .ref px, .ref py, .int pn, .ref qx, .ref qy, .int qn, .ref ml])), (ml, .inr (4, [.ref ed, .int (sn + 1), .int (mo + 1)])), (ed, .inl (cO, 10, .inr (.inr (.inr (.inr (va_up ef sn.toNatClampNeg (some q_1))))))), (q_1, .inr (2, [.long x0.toInt64, .long y0.toInt64, .long ((x1 - x0).toInt64), .long ((y1 - y0).toInt64), .long wd.toInt64]))] := hD
      refine lv_pop hx hb dN_member_119 rfl ?_
      refine lv_aload_n hx hb dN_member_120 rfl (lv_at hl 0 rfl) ?_
      refine va_get (D := (dC, dI)) (ci := 0) (v := .ref ml) (C := xR_N) (T := xF_N) (N := 11) hx hb hts xi_N hown hK hP 0 rfl rfl 10 (by decide) (hts _ xk_124) (fun _ h9 => h9) rfl dN_member_121 ?_
      refine xb_rd (W.runV (C := "java/util/ArrayList") (As := []) (rest := []) ⟨hx, hb, hml, hown, hts⟩ (cA_size l E ml ([.ref ed, .int (sn + 1), .int (mo + 1)]) (sn + 1) rfl) (cwV 0 hts (xb_gi (List.forall_mem_cons.mpr ⟨xk_513, List.forall_mem_cons.mpr ⟨xk_514, List.forall_mem_cons.mpr ⟨xk_515, List.forall_mem_cons.mpr ⟨xk_44, List.forall_mem_cons.mpr ⟨xk_516, fun _ h => absurd h List.not_mem_nil⟩⟩⟩⟩⟩)) rfl rfl rfl (by decide +kernel) ⟨Nat.le_of_ble_eq_true rfl, Nat.le_of_ble_eq_true rfl⟩) ⟨fun _ _ _ _ q => q, va_recv hK hP (ci := 4) (q0 := 1) rfl rfl, fun U hU hW => ⟨rfl, xb_atS hAt hS hA0 hU hW, by rw [hU]; exact hP.sub (ws' := [(ml, .inr (4, [.ref ed, .int (sn + 1), .int (mo + 1)]))]) [1] rfl⟩⟩ rfl rfl hl.1 rfl (lv_room (Nat.le_of_ble_eq_true rfl)) dN_member_124 ⟨Nat.le_of_ble_eq_true rfl, Nat.le_of_ble_eq_true rfl⟩) ?_
      refine lv_iconst (v := 1) hx hb dN_member_127 (by decide) ?_
      refine lv_isub hx hb dN_member_128 ?_
      have e_0 : gN_member_m sn x0 y0 x1 y1 wd = ((fA_size (sn + 1)) - 1) := (if_neg c_1).trans (rfl)
      have hP9 := hP.sub (ws' := [(h0, .inr (0, [.ref ta, .ref ra, .int wet, .int less, .ref px, .ref py, .int pn, .ref qx, .ref qy, .int qn, .ref ml])), (ml, .inr (4, [.ref ed, .int (sn + 1), .int (mo + 1)])), (ed, .inl (cO, 10, .inr (.inr (.inr (.inr (va_up ef sn.toNatClampNeg (some q_1))))))), (q_1, .inr (2, [.long x0.toInt64, .long y0.toInt64, .long ((x1 - x0).toInt64), .long ((y1 - y0).toInt64), .long wd.toInt64]))]) [0, 1, 2, 3] rfl
      have hD9 := hD.sub (ws' := [(h0, .inr (0, [.ref ta, .ref ra, .int wet, .int less, .ref px, .ref py, .int pn, .ref qx, .ref qy, .int qn, .ref ml])), (ml, .inr (4, [.ref ed, .int (sn + 1), .int (mo + 1)])), (ed, .inl (cO, 10, .inr (.inr (.inr (.inr (va_up ef sn.toNatClampNeg (some q_1))))))), (q_1, .inr (2, [.long x0.toInt64, .long y0.toInt64, .long ((x1 - x0).toInt64), .long ((y1 - y0).toInt64), .long wd.toInt64]))]) [0, 1, 2, 3] (by decide) rfl
      refine W.widen (k := 1) (n := 5) (by omega) (by omega) ?_
      exact W.iret (v := ((fA_size (sn + 1)) - 1)) hx hb hr (fun t ht hW => ⟨_, _, rfl, ⟨q_1, by first | rfl | (simp only [e_0]; try rfl), by first | rfl | (simp only [e_0]; try rfl)⟩, by rw [ht]; exact hP9, hD9, hS.F ht⟩) hS.2.2 dN_member_129
    · first | exact absurd ⟨(by assumption), (by assumption)⟩ hne | exact absurd hs6 (by assumption)
  · refine lv_iload_n hx hb dN_member_50 rfl (lv_at hl 2 rfl) ?_
    refine lv_iload hx hb dN_member_51 (lv_at hl 4 rfl) ?_
    refine lv_icmp_ne (tgt := 66) hx hb dN_member_53 (by decide) (fun c_3 => ?_) (fun c_3 => ?_)
    · refine lv_iload hx hb dN_member_66 (lv_at hl 5 rfl) ?_
      refine lv_i2l hx hb dN_member_68 rfl ?_
      refine lv_lconst (v := 1) hx hb dN_member_69 (by decide) ?_
      refine lv_ldc2 (v := 10000) hx hb hown (hts _ xk_511) dN_member_70 ?_
      refine xb_rd (W.runS (As := [.long wd.toInt64, .long 1, .long 10000]) (rest := []) ⟨hx, hb, hml, hown, hts⟩ (cN_requireWithin l E wd.toInt64 1 10000 (va) (vb)) (cwS 3 hts (xb_gi (List.forall_mem_cons.mpr ⟨xk_371, List.forall_mem_cons.mpr ⟨xk_372, List.forall_mem_cons.mpr ⟨xk_40, List.forall_mem_cons.mpr ⟨xk_373, fun _ h => absurd h List.not_mem_nil⟩⟩⟩⟩)) rfl rfl rfl (by decide +kernel) ⟨Nat.le_of_ble_eq_true rfl, Nat.le_of_ble_eq_true rfl⟩) ⟨fun _ _ _ _ q => q, fun U hU hW => ⟨rfl, xb_atS hAt hS hA0 hU hW, fun k q h => by simp at h⟩⟩ rfl rfl hl.1 rfl (lv_room (Nat.le_of_ble_eq_true rfl)) dN_member_73 ⟨Nat.zero_le _, Nat.zero_le _⟩) ?_
      refine lv_aload_n hx hb dN_member_76 rfl (lv_at hl 0 rfl) ?_
      refine va_get (D := (dC, dI)) (ci := 0) (v := .ref ml) (C := xR_N) (T := xF_N) (N := 11) hx hb hts xi_N hown hK hP 0 rfl rfl 10 (by decide) (hts _ xk_124) (fun _ h9 => h9) rfl dN_member_77 ?_
      refine xb_rd (W.runV (C := "java/util/ArrayList") (As := []) (rest := []) ⟨hx, hb, hml, hown, hts⟩ (cA_size l E ml ([.ref ed, .int sn, .int mo]) sn rfl) (cwV 0 hts (xb_gi (List.forall_mem_cons.mpr ⟨xk_513, List.forall_mem_cons.mpr ⟨xk_514, List.forall_mem_cons.mpr ⟨xk_515, List.forall_mem_cons.mpr ⟨xk_44, List.forall_mem_cons.mpr ⟨xk_516, fun _ h => absurd h List.not_mem_nil⟩⟩⟩⟩⟩)) rfl rfl rfl (by decide +kernel) ⟨Nat.le_of_ble_eq_true rfl, Nat.le_of_ble_eq_true rfl⟩) ⟨fun _ _ _ _ q => q, va_recv hK hP (ci := 4) (q0 := 1) rfl rfl, fun U hU hW => ⟨rfl, xb_atS hAt hS hA0 hU hW, by rw [hU]; exact hP.sub (ws' := [(ml, .inr (4, [.ref ed, .int sn, .int mo]))]) [1] rfl⟩⟩ rfl rfl hl.1 rfl (lv_room (Nat.le_of_ble_eq_true rfl)) dN_member_80 ⟨Nat.zero_le _, Nat.zero_le _⟩) ?_
      refine lv_bipush (v := 6) hx hb dN_member_83 (by decide) ?_
      refine lv_icmp_lt (tgt := 98) hx hb dN_member_85 (by decide) (fun c_4 => ?_) (fun c_4 => ?_)
      · refine lv_aload_n hx hb dN_member_98 rfl (lv_at hl 0 rfl) ?_
        refine va_get (D := (dC, dI)) (ci := 0) (v := .ref ml) (C := xR_N) (T := xF_N) (N := 11) hx hb hts xi_N hown hK hP 0 rfl rfl 10 (by decide) (hts _ xk_124) (fun _ h9 => h9) rfl dN_member_99 ?_
        refine va_new (ci := 2) (fs := [.long 0, .long 0, .long 0, .long 0, .long 0]) (C := xR_M) (T := xF_M) (N := 5) hx hb hts xi_M xt_M xt_M_ok hown (hts _ xk_518) (hts _ xk_519) (hts _ xk_57) hK hP hD hS hA rfl (fun j hj => by rcases (show j = 0 ∨ j = 1 ∨ j = 2 ∨ j = 3 ∨ j = 4 by omega) with rfl | rfl | rfl | rfl | rfl <;> rfl) (Nat.le_of_ble_eq_true rfl) (Nat.le_of_ble_eq_true rfl) dN_member_102 (fun q_1 H hP hD hS => ?_)
        have hP : va_P (dC, dI) classes [(h0, .inr (0, [.ref ta, .ref ra, .int wet, .int less, .ref px, .ref py, .int pn, .ref qx, .ref qy, .int qn, .ref ml])), (ml, .inr (4, [.ref ed, .int sn, .int mo])), (ed, .inl (cO, 10, .inr (.inr (.inr (.inr ef))))), (q_1, .inr (2, [.long 0, .long 0, .long 0, .long 0, .long 0]))] H := hP
        have hD : va_D A [(h0, .inr (0, [.ref ta, .ref ra, .int wet, .int less, .ref px, .ref py, .int pn, .ref qx, .ref qy, .int qn, .ref ml])), (ml, .inr (4, [.ref ed, .int sn, .int mo])), (ed, .inl (cO, 10, .inr (.inr (.inr (.inr ef))))), (q_1, .inr (2, [.long 0, .long 0, .long 0, .long 0, .long 0]))] := hD
        refine W.widen (k := 1) (n := 5) (by omega) (by omega) ?_
        refine lv_dup hx hb dN_member_105 rfl ?_
        refine lv_iload_n hx hb dN_member_106 rfl (lv_at hl 1 rfl) ?_
        refine lv_iload_n hx hb dN_member_107 rfl (lv_at hl 2 rfl) ?_
        refine lv_iload_n hx hb dN_member_108 rfl (lv_at hl 3 rfl) ?_
        refine lv_iload hx hb dN_member_109 (lv_at hl 4 rfl) ?_
        refine lv_iload hx hb dN_member_111 (lv_at hl 5 rfl) ?_
        refine xb_wr (wr := [(h0, .inr (0, [.ref ta, .ref ra, .int wet, .int less, .ref px, .ref py, .int pn, .ref qx, .ref qy, .int qn, .ref ml])), (ml, .inr (4, [.ref ed, .int sn, .int mo])), (ed, .inl (cO, 10, .inr (.inr (.inr (.inr ef)))))]) (va_runIN (As := [.int x0, .int y0, .int x1, .int y1, .int wd]) (rest := [.ref q_1, .ref ml]) ⟨hx, hb, hml, hown, hts⟩ (cM_init l E _ q_1 x0 y0 x1 y1 wd) ⟨va_cnB 5 hts (xb_gi (List.forall_mem_cons.mpr ⟨xk_522, fun _ h => absurd h List.not_mem_nil⟩)) rfl rfl rfl (xb_nest E hAt xk_520) (hts _ xk_57) (by decide +kernel) ⟨Nat.le_of_ble_eq_true rfl, Nat.le_of_ble_eq_true rfl⟩, rfl, hts _ xk_521⟩ ⟨fun _ _ _ _ q => q, fun U hU hW => ⟨rfl, xb_atS hAt hS hA0 hU hW, by rw [hU], by rw [hU]; exact hP.sub (ws' := [(q_1, .inr (2, [.long 0, .long 0, .long 0, .long 0, .long 0]))]) [3] rfl, (hD.sub (ws' := [(q_1, .inr (2, [.long 0, .long 0, .long 0, .long 0, .long 0]))]) [3] (by decide) rfl).weaken (fun _ q _ h => hA0 q.1 h)⟩⟩ rfl rfl hl.1 rfl (lv_room (Nat.le_of_ble_eq_true rfl)) dN_member_113 ⟨Nat.le_of_ble_eq_true rfl, Nat.le_of_ble_eq_true rfl⟩) hP hD hS hA [3] [0, 1, 2] rfl rfl (by decide) (by decide) ?_
        rintro _ _ H locs ⟨rfl, rfl⟩ hP hD hS
        have hP : va_P (dC, dI) classes [(h0, .inr (0, [.ref ta, .ref ra, .int wet, .int less, .ref px, .ref py, .int pn, .ref qx, .ref qy, .int qn, .ref ml])), (ml, .inr (4, [.ref ed, .int sn, .int mo])), (ed, .inl (cO, 10, .inr (.inr (.inr (.inr ef))))), (q_1, .inr (2, [.long x0.toInt64, .long y0.toInt64, .long ((x1 - x0).toInt64), .long ((y1 - y0).toInt64), .long wd.toInt64]))] H := hP
        have hD : va_D A [(h0, .inr (0, [.ref ta, .ref ra, .int wet, .int less, .ref px, .ref py, .int pn, .ref qx, .ref qy, .int qn, .ref ml])), (ml, .inr (4, [.ref ed, .int sn, .int mo])), (ed, .inl (cO, 10, .inr (.inr (.inr (.inr ef))))), (q_1, .inr (2, [.long x0.toInt64, .long y0.toInt64, .long ((x1 - x0).toInt64), .long ((y1 - y0).toInt64), .long wd.toInt64]))] := hD
        refine xb_wr (wr := [(h0, .inr (0, [.ref ta, .ref ra, .int wet, .int less, .ref px, .ref py, .int pn, .ref qx, .ref qy, .int qn, .ref ml]))]) (va_runV (C := "java/util/ArrayList") (As := [.ref q_1]) (rest := []) ⟨hx, hb, hml, hown, hts⟩ (cA_add_m l E _ ml ed q_1 sn mo ef x0.toInt64 y0.toInt64 ((x1 - x0).toInt64) ((y1 - y0).toInt64) wd.toInt64 (hs)) (cwV 1 hts (xb_gi (List.forall_mem_cons.mpr ⟨xk_540, List.forall_mem_cons.mpr ⟨xk_541, List.forall_mem_cons.mpr ⟨xk_542, List.forall_mem_cons.mpr ⟨xk_44, List.forall_mem_cons.mpr ⟨xk_543, fun _ h => absurd h List.not_mem_nil⟩⟩⟩⟩⟩)) rfl rfl rfl (by decide +kernel) ⟨Nat.le_of_ble_eq_true rfl, Nat.le_of_ble_eq_true rfl⟩) ⟨fun _ _ _ _ q => q, va_recv hK hP (ci := 4) (q0 := 1) rfl rfl, fun U hU hW => ⟨rfl, xb_atS hAt hS hA0 hU hW, by rw [hU], by rw [hU]; exact hP.sub (ws' := [(ml, .inr (4, [.ref ed, .int sn, .int mo])), (ed, .inl (cO, 10, .inr (.inr (.inr (.inr ef))))), (q_1, .inr (2, [.long x0.toInt64, .long y0.toInt64, .long ((x1 - x0).toInt64), .long ((y1 - y0).toInt64), .long wd.toInt64]))]) [1, 2, 3] rfl, (hD.sub (ws' := [(ml, .inr (4, [.ref ed, .int sn, .int mo])), (ed, .inl (cO, 10, .inr (.inr (.inr (.inr ef))))), (q_1, .inr (2, [.long x0.toInt64, .long y0.toInt64, .long ((x1 - x0).toInt64), .long ((y1 - y0).toInt64), .long wd.toInt64]))]) [1, 2, 3] (by decide) rfl).weaken (fun _ q _ h => hA0 q.1 h)⟩⟩ rfl rfl hl.1 rfl (lv_room (Nat.le_of_ble_eq_true rfl)) dN_member_116 ⟨Nat.le_of_ble_eq_true rfl, Nat.le_of_ble_eq_true rfl⟩) hP hD hS hA [1, 2, 3] [0] rfl rfl (by decide) (by decide) ?_
        rintro _ _ H locs ⟨rfl, rfl⟩ hP hD hS
        have hP : va_P (dC, dI) classes [(h0, .inr (0, [.ref ta, .ref ra, .int wet, .int less, .ref px, .ref py, .int pn, .ref qx, .ref qy, .int qn, .ref ml])), (ml, .inr (4, [.ref ed, .int (sn + 1), .int (mo + 1)])), (ed, .inl (cO, 10, .inr (.inr (.inr (.inr (va_up ef sn.toNatClampNeg (some q_1))))))), (q_1, .inr (2, [.long x0.toInt64, .long y0.toInt64, .long ((x1 - x0).toInt64), .long ((y1 - y0).toInt64), .long wd.toInt64]))] H := hP
        have hD : va_D A [(h0, .inr (0, [.ref ta, .ref ra, .int wet, .int less, .ref px, .ref py, .int pn, .ref qx, .ref qy, .int qn, .ref ml])), (ml, .inr (4, [.ref ed, .int (sn + 1), .int (mo + 1)])), (ed, .inl (cO, 10, .inr (.inr (.inr (.inr (va_up ef sn.toNatClampNeg (some q_1))))))), (q_1, .inr (2, [.long x0.toInt64, .long y0.toInt64, .long ((x1 - x0).toInt64), .long ((y1 - y0).toInt64), .long wd.toInt64]))] := hD
        refine lv_pop hx hb dN_member_119 rfl ?_
        refine lv_aload_n hx hb dN_member_120 rfl (lv_at hl 0 rfl) ?_
        refine va_get (D := (dC, dI)) (ci := 0) (v := .ref ml) (C := xR_N) (T := xF_N) (N := 11) hx hb hts xi_N hown hK hP 0 rfl rfl 10 (by decide) (hts _ xk_124) (fun _ h9 => h9) rfl dN_member_121 ?_
        refine xb_rd (W.runV (C := "java/util/ArrayList") (As := []) (rest := []) ⟨hx, hb, hml, hown, hts⟩ (cA_size l E ml ([.ref ed, .int (sn + 1), .int (mo + 1)]) (sn + 1) rfl) (cwV 0 hts (xb_gi (List.forall_mem_cons.mpr ⟨xk_513, List.forall_mem_cons.mpr ⟨xk_514, List.forall_mem_cons.mpr ⟨xk_515, List.forall_mem_cons.mpr ⟨xk_44, List.forall_mem_cons.mpr ⟨xk_516, fun _ h => absurd h List.not_mem_nil⟩⟩⟩⟩⟩)) rfl rfl rfl (by decide +kernel) ⟨Nat.le_of_ble_eq_true rfl, Nat.le_of_ble_eq_true rfl⟩) ⟨fun _ _ _ _ q => q, va_recv hK hP (ci := 4) (q0 := 1) rfl rfl, fun U hU hW => ⟨rfl, xb_atS hAt hS hA0 hU hW, by rw [hU]; exact hP.sub (ws' := [(ml, .inr (4, [.ref ed, .int (sn + 1), .int (mo + 1)]))]) [1] rfl⟩⟩ rfl rfl hl.1 rfl (lv_room (Nat.le_of_ble_eq_true rfl)) dN_member_124 ⟨Nat.le_of_ble_eq_true rfl, Nat.le_of_ble_eq_true rfl⟩) ?_
        refine lv_iconst (v := 1) hx hb dN_member_127 (by decide) ?_
        refine lv_isub hx hb dN_member_128 ?_
        have e_0 : gN_member_m sn x0 y0 x1 y1 wd = ((fA_size (sn + 1)) - 1) := (if_pos c_1).trans (rfl)
        have hP9 := hP.sub (ws' := [(h0, .inr (0, [.ref ta, .ref ra, .int wet, .int less, .ref px, .ref py, .int pn, .ref qx, .ref qy, .int qn, .ref ml])), (ml, .inr (4, [.ref ed, .int (sn + 1), .int (mo + 1)])), (ed, .inl (cO, 10, .inr (.inr (.inr (.inr (va_up ef sn.toNatClampNeg (some q_1))))))), (q_1, .inr (2, [.long x0.toInt64, .long y0.toInt64, .long ((x1 - x0).toInt64), .long ((y1 - y0).toInt64), .long wd.toInt64]))]) [0, 1, 2, 3] rfl
        have hD9 := hD.sub (ws' := [(h0, .inr (0, [.ref ta, .ref ra, .int wet, .int less, .ref px, .ref py, .int pn, .ref qx, .ref qy, .int qn, .ref ml])), (ml, .inr (4, [.ref ed, .int (sn + 1), .int (mo + 1)])), (ed, .inl (cO, 10, .inr (.inr (.inr (.inr (va_up ef sn.toNatClampNeg (some q_1))))))), (q_1, .inr (2, [.long x0.toInt64, .long y0.toInt64, .long ((x1 - x0).toInt64), .long ((y1 - y0).toInt64), .long wd.toInt64]))]) [0, 1, 2, 3] (by decide) rfl
        refine W.widen (k := 1) (n := 5) (by omega) (by omega) ?_
        exact W.iret (v := ((fA_size (sn + 1)) - 1)) hx hb hr (fun t ht hW => ⟨_, _, rfl, ⟨q_1, by first | rfl | (simp only [e_0]; try rfl), by first | rfl | (simp only [e_0]; try rfl)⟩, by rw [ht]; exact hP9, hD9, hS.F ht⟩) hS.2.2 dN_member_129
      · first | exact absurd ⟨(by assumption), (by assumption)⟩ hne | exact absurd hs6 (by assumption)
    · first | exact absurd ⟨(by assumption), (by assumption)⟩ hne | exact absurd hs6 (by assumption)

set_option maxHeartbeats 4000000 in
set_option maxRecDepth 100000 in
theorem cN_member_x5 (l : Launch) {s0 : State} {dC : Nat → ClassId} {dI : Nat → Nat → Nat} {cI cC cL cO : ClassId} (E : xb_Env l s0 dC dI (xtys cI cC cL cO)) (h0 : Nat) (fs : List Value) (x0 : Int32) (y0 : Int32) (x1 : Int32) (y1 : Int32) (wd : Int32) (ua : ¬ x0.toInt64 < (-10000)) (ub : x0.toInt64 ≤ 10000) (wa : ¬ y0.toInt64 < (-10000)) (wb : y0.toInt64 ≤ 10000) (ga : ¬ x1.toInt64 < (-10000)) (gb : x1.toInt64 ≤ 10000) (qa : ¬ y1.toInt64 < (-10000)) (qb : y1.toInt64 ≤ 10000) (hb9 : x0 = x1 ∧ y0 = y1) : xt_Met l yN_member [.code yN_member bN_member 6 (some (.int))] ({ frames := 6, cells := 1, slots := 6, locals := 82 }) (va_Pc [.ref h0, .int x0, .int y0, .int x1, .int y1, .int wd] (fun U => xb_At s0 U ∧ va_P (dC, dI) classes [(h0, .inr (0, fs))] U.heap)) "java/lang/IllegalArgumentException" := by
  refine xt_Met.ofW (cc := bN_member) (maxL := 6) (ret := (some (.int))) (by decide) rfl ?_
  intro p e s m args below meth c s₁ B hml hex hv
  obtain ⟨rfl, hAt, hP⟩ := hv
  have hx := B.exec
  have hb := B.bytes
  have hr := B.returns
  have hts := xb_hts E hAt ([.ref h0, .int x0, .int y0, .int x1, .int y1, .int wd] : List Value).toArray
  have hown : s.vm.findClass "NailRules" = some m.cls := findClass_of_methodNamed B.named
  have hlocks := B.notSynchronized
  have hK := xb_K E hAt
  have hl := lv_entry ([.ref h0, .int x0, .int y0, .int x1, .int y1, .int wd]) (n := 6) (Nat.le_of_ble_eq_true rfl)
  rw [lg_entry_eq]
  generalize (lg_sl ([.ref h0, .int x0, .int y0, .int x1, .int y1, .int wd]) ++ List.replicate (6 - (lg_sl ([.ref h0, .int x0, .int y0, .int x1, .int y1, .int wd])).length) Slot.unset).toArray = ls at hl ⊢
  have hl : lv_has ls 6 [(0, .ref h0), (1, .int x0), (2, .int y0), (3, .int x1), (4, .int y1), (5, .int wd)] := hl
  refine lv_iload_n hx hb dN_member_0 rfl (lv_at hl 1 rfl) ?_
  refine lv_i2l hx hb dN_member_1 rfl ?_
  refine lv_ldc2 (v := (-10000)) hx hb hown (hts _ xk_510) dN_member_2 ?_
  refine lv_ldc2 (v := 10000) hx hb hown (hts _ xk_511) dN_member_5 ?_
  refine xb_rd (W.runS (As := [.long x0.toInt64, .long (-10000), .long 10000]) (rest := []) ⟨hx, hb, hml, hown, hts⟩ (cN_requireWithin l E x0.toInt64 (-10000) 10000 (ua) (ub)) (cwS 3 hts (xb_gi (List.forall_mem_cons.mpr ⟨xk_371, List.forall_mem_cons.mpr ⟨xk_372, List.forall_mem_cons.mpr ⟨xk_40, List.forall_mem_cons.mpr ⟨xk_373, fun _ h => absurd h List.not_mem_nil⟩⟩⟩⟩)) rfl rfl rfl (by decide +kernel) ⟨Nat.le_of_ble_eq_true rfl, Nat.le_of_ble_eq_true rfl⟩) ⟨fun _ _ _ _ q => q, fun U hU hW => ⟨rfl, xb_at0 hAt hU hW, fun k q h => by simp at h⟩⟩ rfl rfl hl.1 rfl (lv_room (Nat.le_of_ble_eq_true rfl)) dN_member_8 ⟨Nat.zero_le _, Nat.zero_le _⟩) ?_
  refine lv_iload_n hx hb dN_member_11 rfl (lv_at hl 2 rfl) ?_
  refine lv_i2l hx hb dN_member_12 rfl ?_
  refine lv_ldc2 (v := (-10000)) hx hb hown (hts _ xk_510) dN_member_13 ?_
  refine lv_ldc2 (v := 10000) hx hb hown (hts _ xk_511) dN_member_16 ?_
  refine xb_rd (W.runS (As := [.long y0.toInt64, .long (-10000), .long 10000]) (rest := []) ⟨hx, hb, hml, hown, hts⟩ (cN_requireWithin l E y0.toInt64 (-10000) 10000 (wa) (wb)) (cwS 3 hts (xb_gi (List.forall_mem_cons.mpr ⟨xk_371, List.forall_mem_cons.mpr ⟨xk_372, List.forall_mem_cons.mpr ⟨xk_40, List.forall_mem_cons.mpr ⟨xk_373, fun _ h => absurd h List.not_mem_nil⟩⟩⟩⟩)) rfl rfl rfl (by decide +kernel) ⟨Nat.le_of_ble_eq_true rfl, Nat.le_of_ble_eq_true rfl⟩) ⟨fun _ _ _ _ q => q, fun U hU hW => ⟨rfl, xb_at0 hAt hU hW, fun k q h => by simp at h⟩⟩ rfl rfl hl.1 rfl (lv_room (Nat.le_of_ble_eq_true rfl)) dN_member_19 ⟨Nat.zero_le _, Nat.zero_le _⟩) ?_
  refine lv_iload_n hx hb dN_member_22 rfl (lv_at hl 3 rfl) ?_
  refine lv_i2l hx hb dN_member_23 rfl ?_
  refine lv_ldc2 (v := (-10000)) hx hb hown (hts _ xk_510) dN_member_24 ?_
  refine lv_ldc2 (v := 10000) hx hb hown (hts _ xk_511) dN_member_27 ?_
  refine xb_rd (W.runS (As := [.long x1.toInt64, .long (-10000), .long 10000]) (rest := []) ⟨hx, hb, hml, hown, hts⟩ (cN_requireWithin l E x1.toInt64 (-10000) 10000 (ga) (gb)) (cwS 3 hts (xb_gi (List.forall_mem_cons.mpr ⟨xk_371, List.forall_mem_cons.mpr ⟨xk_372, List.forall_mem_cons.mpr ⟨xk_40, List.forall_mem_cons.mpr ⟨xk_373, fun _ h => absurd h List.not_mem_nil⟩⟩⟩⟩)) rfl rfl rfl (by decide +kernel) ⟨Nat.le_of_ble_eq_true rfl, Nat.le_of_ble_eq_true rfl⟩) ⟨fun _ _ _ _ q => q, fun U hU hW => ⟨rfl, xb_at0 hAt hU hW, fun k q h => by simp at h⟩⟩ rfl rfl hl.1 rfl (lv_room (Nat.le_of_ble_eq_true rfl)) dN_member_30 ⟨Nat.zero_le _, Nat.zero_le _⟩) ?_
  refine lv_iload hx hb dN_member_33 (lv_at hl 4 rfl) ?_
  refine lv_i2l hx hb dN_member_35 rfl ?_
  refine lv_ldc2 (v := (-10000)) hx hb hown (hts _ xk_510) dN_member_36 ?_
  refine lv_ldc2 (v := 10000) hx hb hown (hts _ xk_511) dN_member_39 ?_
  refine xb_rd (W.runS (As := [.long y1.toInt64, .long (-10000), .long 10000]) (rest := []) ⟨hx, hb, hml, hown, hts⟩ (cN_requireWithin l E y1.toInt64 (-10000) 10000 (qa) (qb)) (cwS 3 hts (xb_gi (List.forall_mem_cons.mpr ⟨xk_371, List.forall_mem_cons.mpr ⟨xk_372, List.forall_mem_cons.mpr ⟨xk_40, List.forall_mem_cons.mpr ⟨xk_373, fun _ h => absurd h List.not_mem_nil⟩⟩⟩⟩)) rfl rfl rfl (by decide +kernel) ⟨Nat.le_of_ble_eq_true rfl, Nat.le_of_ble_eq_true rfl⟩) ⟨fun _ _ _ _ q => q, fun U hU hW => ⟨rfl, xb_at0 hAt hU hW, fun k q h => by simp at h⟩⟩ rfl rfl hl.1 rfl (lv_room (Nat.le_of_ble_eq_true rfl)) dN_member_42 ⟨Nat.zero_le _, Nat.zero_le _⟩) ?_
  refine lv_iload_n hx hb dN_member_45 rfl (lv_at hl 1 rfl) ?_
  refine lv_iload_n hx hb dN_member_46 rfl (lv_at hl 3 rfl) ?_
  refine lv_icmp_ne (tgt := 66) hx hb dN_member_47 (by decide) (fun c_1 => ?_) (fun c_1 => ?_)
  · exact absurd hb9 (fun q9 => by first | exact absurd q9.1 (by assumption) | exact absurd q9.2 (by assumption))
  · refine lv_iload_n hx hb dN_member_50 rfl (lv_at hl 2 rfl) ?_
    refine lv_iload hx hb dN_member_51 (lv_at hl 4 rfl) ?_
    refine lv_icmp_ne (tgt := 66) hx hb dN_member_53 (by decide) (fun c_2 => ?_) (fun c_2 => ?_)
    · exact absurd hb9 (fun q9 => by first | exact absurd q9.1 (by assumption) | exact absurd q9.2 (by assumption))
    · obtain ⟨q9, hq9⟩ := xt_str E hAt xk_512 xs_131
      exact xt_throw (names := xt_names) hx hb (hml.trans hl.1.symm) E.1 hown hlocks hex (by decide) (by decide) (xt_atoms E hAt _ xt_a2) (hts _ xk_374) (hts _ xk_55) hq9 dN_member_56 dN_member_59 dN_member_60 dN_member_62 dN_member_65 (by decide) (by decide) (by decide) (by decide)

set_option maxHeartbeats 4000000 in
set_option maxRecDepth 100000 in
theorem cN_member_x6 (l : Launch) {s0 : State} {dC : Nat → ClassId} {dI : Nat → Nat → Nat} {cI cC cL cO : ClassId} (E : xb_Env l s0 dC dI (xtys cI cC cL cO)) (h0 : Nat) (fs : List Value) (x0 : Int32) (y0 : Int32) (x1 : Int32) (y1 : Int32) (wd : Int32) (ua : ¬ x0.toInt64 < (-10000)) (ub : x0.toInt64 ≤ 10000) (wa : ¬ y0.toInt64 < (-10000)) (wb : y0.toInt64 ≤ 10000) (ga : ¬ x1.toInt64 < (-10000)) (gb : x1.toInt64 ≤ 10000) (qa : ¬ y1.toInt64 < (-10000)) (qb : y1.toInt64 ≤ 10000) (hne : ¬ (x0 = x1 ∧ y0 = y1)) (hb9 : wd.toInt64 < 1 ∨ ¬ wd.toInt64 ≤ 10000) : xt_Met l yN_member [.code yN_member bN_member 6 (some (.int))] ({ frames := 7, cells := 1, slots := 6, locals := 107 }) (va_Pc [.ref h0, .int x0, .int y0, .int x1, .int y1, .int wd] (fun U => xb_At s0 U ∧ va_P (dC, dI) classes [(h0, .inr (0, fs))] U.heap)) "java/lang/IllegalArgumentException" := by
  refine xt_Met.ofW (cc := bN_member) (maxL := 6) (ret := (some (.int))) (by decide) rfl ?_
  intro p e s m args below meth c s₁ B hml hex hv
  obtain ⟨rfl, hAt, hP⟩ := hv
  have hx := B.exec
  have hb := B.bytes
  have hr := B.returns
  have hts := xb_hts E hAt ([.ref h0, .int x0, .int y0, .int x1, .int y1, .int wd] : List Value).toArray
  have hown : s.vm.findClass "NailRules" = some m.cls := findClass_of_methodNamed B.named
  have hlocks := B.notSynchronized
  have hK := xb_K E hAt
  have hl := lv_entry ([.ref h0, .int x0, .int y0, .int x1, .int y1, .int wd]) (n := 6) (Nat.le_of_ble_eq_true rfl)
  rw [lg_entry_eq]
  generalize (lg_sl ([.ref h0, .int x0, .int y0, .int x1, .int y1, .int wd]) ++ List.replicate (6 - (lg_sl ([.ref h0, .int x0, .int y0, .int x1, .int y1, .int wd])).length) Slot.unset).toArray = ls at hl ⊢
  have hl : lv_has ls 6 [(0, .ref h0), (1, .int x0), (2, .int y0), (3, .int x1), (4, .int y1), (5, .int wd)] := hl
  refine lv_iload_n hx hb dN_member_0 rfl (lv_at hl 1 rfl) ?_
  refine lv_i2l hx hb dN_member_1 rfl ?_
  refine lv_ldc2 (v := (-10000)) hx hb hown (hts _ xk_510) dN_member_2 ?_
  refine lv_ldc2 (v := 10000) hx hb hown (hts _ xk_511) dN_member_5 ?_
  refine xb_rd (W.runS (As := [.long x0.toInt64, .long (-10000), .long 10000]) (rest := []) ⟨hx, hb, hml, hown, hts⟩ (cN_requireWithin l E x0.toInt64 (-10000) 10000 (ua) (ub)) (cwS 3 hts (xb_gi (List.forall_mem_cons.mpr ⟨xk_371, List.forall_mem_cons.mpr ⟨xk_372, List.forall_mem_cons.mpr ⟨xk_40, List.forall_mem_cons.mpr ⟨xk_373, fun _ h => absurd h List.not_mem_nil⟩⟩⟩⟩)) rfl rfl rfl (by decide +kernel) ⟨Nat.le_of_ble_eq_true rfl, Nat.le_of_ble_eq_true rfl⟩) ⟨fun _ _ _ _ q => q, fun U hU hW => ⟨rfl, xb_at0 hAt hU hW, fun k q h => by simp at h⟩⟩ rfl rfl hl.1 rfl (lv_room (Nat.le_of_ble_eq_true rfl)) dN_member_8 ⟨Nat.zero_le _, Nat.zero_le _⟩) ?_
  refine lv_iload_n hx hb dN_member_11 rfl (lv_at hl 2 rfl) ?_
  refine lv_i2l hx hb dN_member_12 rfl ?_
  refine lv_ldc2 (v := (-10000)) hx hb hown (hts _ xk_510) dN_member_13 ?_
  refine lv_ldc2 (v := 10000) hx hb hown (hts _ xk_511) dN_member_16 ?_
  refine xb_rd (W.runS (As := [.long y0.toInt64, .long (-10000), .long 10000]) (rest := []) ⟨hx, hb, hml, hown, hts⟩ (cN_requireWithin l E y0.toInt64 (-10000) 10000 (wa) (wb)) (cwS 3 hts (xb_gi (List.forall_mem_cons.mpr ⟨xk_371, List.forall_mem_cons.mpr ⟨xk_372, List.forall_mem_cons.mpr ⟨xk_40, List.forall_mem_cons.mpr ⟨xk_373, fun _ h => absurd h List.not_mem_nil⟩⟩⟩⟩)) rfl rfl rfl (by decide +kernel) ⟨Nat.le_of_ble_eq_true rfl, Nat.le_of_ble_eq_true rfl⟩) ⟨fun _ _ _ _ q => q, fun U hU hW => ⟨rfl, xb_at0 hAt hU hW, fun k q h => by simp at h⟩⟩ rfl rfl hl.1 rfl (lv_room (Nat.le_of_ble_eq_true rfl)) dN_member_19 ⟨Nat.zero_le _, Nat.zero_le _⟩) ?_
  refine lv_iload_n hx hb dN_member_22 rfl (lv_at hl 3 rfl) ?_
  refine lv_i2l hx hb dN_member_23 rfl ?_
  refine lv_ldc2 (v := (-10000)) hx hb hown (hts _ xk_510) dN_member_24 ?_
  refine lv_ldc2 (v := 10000) hx hb hown (hts _ xk_511) dN_member_27 ?_
  refine xb_rd (W.runS (As := [.long x1.toInt64, .long (-10000), .long 10000]) (rest := []) ⟨hx, hb, hml, hown, hts⟩ (cN_requireWithin l E x1.toInt64 (-10000) 10000 (ga) (gb)) (cwS 3 hts (xb_gi (List.forall_mem_cons.mpr ⟨xk_371, List.forall_mem_cons.mpr ⟨xk_372, List.forall_mem_cons.mpr ⟨xk_40, List.forall_mem_cons.mpr ⟨xk_373, fun _ h => absurd h List.not_mem_nil⟩⟩⟩⟩)) rfl rfl rfl (by decide +kernel) ⟨Nat.le_of_ble_eq_true rfl, Nat.le_of_ble_eq_true rfl⟩) ⟨fun _ _ _ _ q => q, fun U hU hW => ⟨rfl, xb_at0 hAt hU hW, fun k q h => by simp at h⟩⟩ rfl rfl hl.1 rfl (lv_room (Nat.le_of_ble_eq_true rfl)) dN_member_30 ⟨Nat.zero_le _, Nat.zero_le _⟩) ?_
  refine lv_iload hx hb dN_member_33 (lv_at hl 4 rfl) ?_
  refine lv_i2l hx hb dN_member_35 rfl ?_
  refine lv_ldc2 (v := (-10000)) hx hb hown (hts _ xk_510) dN_member_36 ?_
  refine lv_ldc2 (v := 10000) hx hb hown (hts _ xk_511) dN_member_39 ?_
  refine xb_rd (W.runS (As := [.long y1.toInt64, .long (-10000), .long 10000]) (rest := []) ⟨hx, hb, hml, hown, hts⟩ (cN_requireWithin l E y1.toInt64 (-10000) 10000 (qa) (qb)) (cwS 3 hts (xb_gi (List.forall_mem_cons.mpr ⟨xk_371, List.forall_mem_cons.mpr ⟨xk_372, List.forall_mem_cons.mpr ⟨xk_40, List.forall_mem_cons.mpr ⟨xk_373, fun _ h => absurd h List.not_mem_nil⟩⟩⟩⟩)) rfl rfl rfl (by decide +kernel) ⟨Nat.le_of_ble_eq_true rfl, Nat.le_of_ble_eq_true rfl⟩) ⟨fun _ _ _ _ q => q, fun U hU hW => ⟨rfl, xb_at0 hAt hU hW, fun k q h => by simp at h⟩⟩ rfl rfl hl.1 rfl (lv_room (Nat.le_of_ble_eq_true rfl)) dN_member_42 ⟨Nat.zero_le _, Nat.zero_le _⟩) ?_
  refine lv_iload_n hx hb dN_member_45 rfl (lv_at hl 1 rfl) ?_
  refine lv_iload_n hx hb dN_member_46 rfl (lv_at hl 3 rfl) ?_
  refine lv_icmp_ne (tgt := 66) hx hb dN_member_47 (by decide) (fun c_1 => ?_) (fun c_1 => ?_)
  · refine lv_iload hx hb dN_member_66 (lv_at hl 5 rfl) ?_
    refine lv_i2l hx hb dN_member_68 rfl ?_
    refine lv_lconst (v := 1) hx hb dN_member_69 (by decide) ?_
    refine lv_ldc2 (v := 10000) hx hb hown (hts _ xk_511) dN_member_70 ?_
    exact xt_pass hlocks hex (xt_runS (As := [.long wd.toInt64, .long 1, .long 10000]) (rest := []) ⟨hx, hb, hml, hown, hts⟩ (cN_requireWithin_x l E wd.toInt64 1 10000 (hb9)) (cwS 3 hts (xb_gi (List.forall_mem_cons.mpr ⟨xk_371, List.forall_mem_cons.mpr ⟨xk_372, List.forall_mem_cons.mpr ⟨xk_40, List.forall_mem_cons.mpr ⟨xk_373, fun _ h => absurd h List.not_mem_nil⟩⟩⟩⟩)) rfl rfl rfl (by decide +kernel) ⟨Nat.le_of_ble_eq_true rfl, Nat.le_of_ble_eq_true rfl⟩) ⟨fun _ _ _ _ q => q, fun U hU hW => ⟨rfl, xb_at0 hAt hU hW, fun k q h => by simp at h⟩⟩ rfl rfl hl.1 rfl (lv_room (Nat.le_of_ble_eq_true rfl)) dN_member_73 ⟨Nat.le_of_ble_eq_true rfl, Nat.le_of_ble_eq_true rfl⟩)
  · refine lv_iload_n hx hb dN_member_50 rfl (lv_at hl 2 rfl) ?_
    refine lv_iload hx hb dN_member_51 (lv_at hl 4 rfl) ?_
    refine lv_icmp_ne (tgt := 66) hx hb dN_member_53 (by decide) (fun c_2 => ?_) (fun c_2 => ?_)
    · refine lv_iload hx hb dN_member_66 (lv_at hl 5 rfl) ?_
      refine lv_i2l hx hb dN_member_68 rfl ?_
      refine lv_lconst (v := 1) hx hb dN_member_69 (by decide) ?_
      refine lv_ldc2 (v := 10000) hx hb hown (hts _ xk_511) dN_member_70 ?_
      exact xt_pass hlocks hex (xt_runS (As := [.long wd.toInt64, .long 1, .long 10000]) (rest := []) ⟨hx, hb, hml, hown, hts⟩ (cN_requireWithin_x l E wd.toInt64 1 10000 (hb9)) (cwS 3 hts (xb_gi (List.forall_mem_cons.mpr ⟨xk_371, List.forall_mem_cons.mpr ⟨xk_372, List.forall_mem_cons.mpr ⟨xk_40, List.forall_mem_cons.mpr ⟨xk_373, fun _ h => absurd h List.not_mem_nil⟩⟩⟩⟩)) rfl rfl rfl (by decide +kernel) ⟨Nat.le_of_ble_eq_true rfl, Nat.le_of_ble_eq_true rfl⟩) ⟨fun _ _ _ _ q => q, fun U hU hW => ⟨rfl, xb_at0 hAt hU hW, fun k q h => by simp at h⟩⟩ rfl rfl hl.1 rfl (lv_room (Nat.le_of_ble_eq_true rfl)) dN_member_73 ⟨Nat.le_of_ble_eq_true rfl, Nat.le_of_ble_eq_true rfl⟩)
    · exact absurd ⟨(by assumption), (by assumption)⟩ hne

set_option maxHeartbeats 4000000 in
set_option maxRecDepth 100000 in
theorem cN_member_x7 (l : Launch) {s0 : State} {dC : Nat → ClassId} {dI : Nat → Nat → Nat} {cI cC cL cO : ClassId} (E : xb_Env l s0 dC dI (xtys cI cC cL cO)) (h0 : Nat) (fs : List Value) (ml : Nat) (gs : List Value) (sn : Int32) (x0 : Int32) (y0 : Int32) (x1 : Int32) (y1 : Int32) (wd : Int32) (hf10 : fs[10]? = some (.ref ml)) (hg1 : gs[1]? = some (.int sn)) (ua : ¬ x0.toInt64 < (-10000)) (ub : x0.toInt64 ≤ 10000) (wa : ¬ y0.toInt64 < (-10000)) (wb : y0.toInt64 ≤ 10000) (ga : ¬ x1.toInt64 < (-10000)) (gb : x1.toInt64 ≤ 10000) (qa : ¬ y1.toInt64 < (-10000)) (qb : y1.toInt64 ≤ 10000) (hne : ¬ (x0 = x1 ∧ y0 = y1)) (va : ¬ wd.toInt64 < 1) (vb : wd.toInt64 ≤ 10000) (hb9 : ¬ fA_size sn < 6) : xt_Met l yN_member [.code yN_member bN_member 6 (some (.int))] ({ frames := 6, cells := 1, slots := 6, locals := 82 }) (va_Pc [.ref h0, .int x0, .int y0, .int x1, .int y1, .int wd] (fun U => xb_At s0 U ∧ va_P (dC, dI) classes [(h0, .inr (0, fs)), (ml, .inr (4, gs))] U.heap)) "java/lang/IllegalStateException" := by
  refine xt_Met.ofW (cc := bN_member) (maxL := 6) (ret := (some (.int))) (by decide) rfl ?_
  intro p e s m args below meth c s₁ B hml hex hv
  obtain ⟨rfl, hAt, hP⟩ := hv
  have hx := B.exec
  have hb := B.bytes
  have hr := B.returns
  have hts := xb_hts E hAt ([.ref h0, .int x0, .int y0, .int x1, .int y1, .int wd] : List Value).toArray
  have hown : s.vm.findClass "NailRules" = some m.cls := findClass_of_methodNamed B.named
  have hlocks := B.notSynchronized
  have hK := xb_K E hAt
  have hl := lv_entry ([.ref h0, .int x0, .int y0, .int x1, .int y1, .int wd]) (n := 6) (Nat.le_of_ble_eq_true rfl)
  rw [lg_entry_eq]
  generalize (lg_sl ([.ref h0, .int x0, .int y0, .int x1, .int y1, .int wd]) ++ List.replicate (6 - (lg_sl ([.ref h0, .int x0, .int y0, .int x1, .int y1, .int wd])).length) Slot.unset).toArray = ls at hl ⊢
  have hl : lv_has ls 6 [(0, .ref h0), (1, .int x0), (2, .int y0), (3, .int x1), (4, .int y1), (5, .int wd)] := hl
  refine lv_iload_n hx hb dN_member_0 rfl (lv_at hl 1 rfl) ?_
  refine lv_i2l hx hb dN_member_1 rfl ?_
  refine lv_ldc2 (v := (-10000)) hx hb hown (hts _ xk_510) dN_member_2 ?_
  refine lv_ldc2 (v := 10000) hx hb hown (hts _ xk_511) dN_member_5 ?_
  refine xb_rd (W.runS (As := [.long x0.toInt64, .long (-10000), .long 10000]) (rest := []) ⟨hx, hb, hml, hown, hts⟩ (cN_requireWithin l E x0.toInt64 (-10000) 10000 (ua) (ub)) (cwS 3 hts (xb_gi (List.forall_mem_cons.mpr ⟨xk_371, List.forall_mem_cons.mpr ⟨xk_372, List.forall_mem_cons.mpr ⟨xk_40, List.forall_mem_cons.mpr ⟨xk_373, fun _ h => absurd h List.not_mem_nil⟩⟩⟩⟩)) rfl rfl rfl (by decide +kernel) ⟨Nat.le_of_ble_eq_true rfl, Nat.le_of_ble_eq_true rfl⟩) ⟨fun _ _ _ _ q => q, fun U hU hW => ⟨rfl, xb_at0 hAt hU hW, fun k q h => by simp at h⟩⟩ rfl rfl hl.1 rfl (lv_room (Nat.le_of_ble_eq_true rfl)) dN_member_8 ⟨Nat.zero_le _, Nat.zero_le _⟩) ?_
  refine lv_iload_n hx hb dN_member_11 rfl (lv_at hl 2 rfl) ?_
  refine lv_i2l hx hb dN_member_12 rfl ?_
  refine lv_ldc2 (v := (-10000)) hx hb hown (hts _ xk_510) dN_member_13 ?_
  refine lv_ldc2 (v := 10000) hx hb hown (hts _ xk_511) dN_member_16 ?_
  refine xb_rd (W.runS (As := [.long y0.toInt64, .long (-10000), .long 10000]) (rest := []) ⟨hx, hb, hml, hown, hts⟩ (cN_requireWithin l E y0.toInt64 (-10000) 10000 (wa) (wb)) (cwS 3 hts (xb_gi (List.forall_mem_cons.mpr ⟨xk_371, List.forall_mem_cons.mpr ⟨xk_372, List.forall_mem_cons.mpr ⟨xk_40, List.forall_mem_cons.mpr ⟨xk_373, fun _ h => absurd h List.not_mem_nil⟩⟩⟩⟩)) rfl rfl rfl (by decide +kernel) ⟨Nat.le_of_ble_eq_true rfl, Nat.le_of_ble_eq_true rfl⟩) ⟨fun _ _ _ _ q => q, fun U hU hW => ⟨rfl, xb_at0 hAt hU hW, fun k q h => by simp at h⟩⟩ rfl rfl hl.1 rfl (lv_room (Nat.le_of_ble_eq_true rfl)) dN_member_19 ⟨Nat.zero_le _, Nat.zero_le _⟩) ?_
  refine lv_iload_n hx hb dN_member_22 rfl (lv_at hl 3 rfl) ?_
  refine lv_i2l hx hb dN_member_23 rfl ?_
  refine lv_ldc2 (v := (-10000)) hx hb hown (hts _ xk_510) dN_member_24 ?_
  refine lv_ldc2 (v := 10000) hx hb hown (hts _ xk_511) dN_member_27 ?_
  refine xb_rd (W.runS (As := [.long x1.toInt64, .long (-10000), .long 10000]) (rest := []) ⟨hx, hb, hml, hown, hts⟩ (cN_requireWithin l E x1.toInt64 (-10000) 10000 (ga) (gb)) (cwS 3 hts (xb_gi (List.forall_mem_cons.mpr ⟨xk_371, List.forall_mem_cons.mpr ⟨xk_372, List.forall_mem_cons.mpr ⟨xk_40, List.forall_mem_cons.mpr ⟨xk_373, fun _ h => absurd h List.not_mem_nil⟩⟩⟩⟩)) rfl rfl rfl (by decide +kernel) ⟨Nat.le_of_ble_eq_true rfl, Nat.le_of_ble_eq_true rfl⟩) ⟨fun _ _ _ _ q => q, fun U hU hW => ⟨rfl, xb_at0 hAt hU hW, fun k q h => by simp at h⟩⟩ rfl rfl hl.1 rfl (lv_room (Nat.le_of_ble_eq_true rfl)) dN_member_30 ⟨Nat.zero_le _, Nat.zero_le _⟩) ?_
  refine lv_iload hx hb dN_member_33 (lv_at hl 4 rfl) ?_
  refine lv_i2l hx hb dN_member_35 rfl ?_
  refine lv_ldc2 (v := (-10000)) hx hb hown (hts _ xk_510) dN_member_36 ?_
  refine lv_ldc2 (v := 10000) hx hb hown (hts _ xk_511) dN_member_39 ?_
  refine xb_rd (W.runS (As := [.long y1.toInt64, .long (-10000), .long 10000]) (rest := []) ⟨hx, hb, hml, hown, hts⟩ (cN_requireWithin l E y1.toInt64 (-10000) 10000 (qa) (qb)) (cwS 3 hts (xb_gi (List.forall_mem_cons.mpr ⟨xk_371, List.forall_mem_cons.mpr ⟨xk_372, List.forall_mem_cons.mpr ⟨xk_40, List.forall_mem_cons.mpr ⟨xk_373, fun _ h => absurd h List.not_mem_nil⟩⟩⟩⟩)) rfl rfl rfl (by decide +kernel) ⟨Nat.le_of_ble_eq_true rfl, Nat.le_of_ble_eq_true rfl⟩) ⟨fun _ _ _ _ q => q, fun U hU hW => ⟨rfl, xb_at0 hAt hU hW, fun k q h => by simp at h⟩⟩ rfl rfl hl.1 rfl (lv_room (Nat.le_of_ble_eq_true rfl)) dN_member_42 ⟨Nat.zero_le _, Nat.zero_le _⟩) ?_
  refine lv_iload_n hx hb dN_member_45 rfl (lv_at hl 1 rfl) ?_
  refine lv_iload_n hx hb dN_member_46 rfl (lv_at hl 3 rfl) ?_
  refine lv_icmp_ne (tgt := 66) hx hb dN_member_47 (by decide) (fun c_1 => ?_) (fun c_1 => ?_)
  · refine lv_iload hx hb dN_member_66 (lv_at hl 5 rfl) ?_
    refine lv_i2l hx hb dN_member_68 rfl ?_
    refine lv_lconst (v := 1) hx hb dN_member_69 (by decide) ?_
    refine lv_ldc2 (v := 10000) hx hb hown (hts _ xk_511) dN_member_70 ?_
    refine xb_rd (W.runS (As := [.long wd.toInt64, .long 1, .long 10000]) (rest := []) ⟨hx, hb, hml, hown, hts⟩ (cN_requireWithin l E wd.toInt64 1 10000 (va) (vb)) (cwS 3 hts (xb_gi (List.forall_mem_cons.mpr ⟨xk_371, List.forall_mem_cons.mpr ⟨xk_372, List.forall_mem_cons.mpr ⟨xk_40, List.forall_mem_cons.mpr ⟨xk_373, fun _ h => absurd h List.not_mem_nil⟩⟩⟩⟩)) rfl rfl rfl (by decide +kernel) ⟨Nat.le_of_ble_eq_true rfl, Nat.le_of_ble_eq_true rfl⟩) ⟨fun _ _ _ _ q => q, fun U hU hW => ⟨rfl, xb_at0 hAt hU hW, fun k q h => by simp at h⟩⟩ rfl rfl hl.1 rfl (lv_room (Nat.le_of_ble_eq_true rfl)) dN_member_73 ⟨Nat.zero_le _, Nat.zero_le _⟩) ?_
    refine lv_aload_n hx hb dN_member_76 rfl (lv_at hl 0 rfl) ?_
    refine va_get (D := (dC, dI)) (ci := 0) (v := .ref ml) (C := xR_N) (T := xF_N) (N := 11) hx hb hts xi_N hown hK hP 0 rfl rfl 10 (by decide) (hts _ xk_124) (fun _ h9 => h9) hf10 dN_member_77 ?_
    refine xb_rd (W.runV (C := "java/util/ArrayList") (As := []) (rest := []) ⟨hx, hb, hml, hown, hts⟩ (cA_size l E ml gs sn hg1) (cwV 0 hts (xb_gi (List.forall_mem_cons.mpr ⟨xk_513, List.forall_mem_cons.mpr ⟨xk_514, List.forall_mem_cons.mpr ⟨xk_515, List.forall_mem_cons.mpr ⟨xk_44, List.forall_mem_cons.mpr ⟨xk_516, fun _ h => absurd h List.not_mem_nil⟩⟩⟩⟩⟩)) rfl rfl rfl (by decide +kernel) ⟨Nat.le_of_ble_eq_true rfl, Nat.le_of_ble_eq_true rfl⟩) ⟨fun _ _ _ _ q => q, va_recv hK hP (ci := 4) (q0 := 1) rfl rfl, fun U hU hW => ⟨rfl, xb_at0 hAt hU hW, by rw [hU]; exact hP.sub (ws' := [(ml, .inr (4, gs))]) [1] rfl⟩⟩ rfl rfl hl.1 rfl (lv_room (Nat.le_of_ble_eq_true rfl)) dN_member_80 ⟨Nat.zero_le _, Nat.zero_le _⟩) ?_
    refine lv_bipush (v := 6) hx hb dN_member_83 (by decide) ?_
    refine lv_icmp_lt (tgt := 98) hx hb dN_member_85 (by decide) (fun c_2 => ?_) (fun c_2 => ?_)
    · first | exact absurd ⟨(by assumption), (by assumption)⟩ hne | contradiction
    · obtain ⟨q9, hq9⟩ := xt_str E hAt xk_517 xs_137
      exact xt_throw (names := xt_names) hx hb (hml.trans hl.1.symm) E.1 hown hlocks hex (by decide) (by decide) (xt_atoms E hAt _ xt_a3) (hts _ xk_457) (hts _ xk_56) hq9 dN_member_88 dN_member_91 dN_member_92 dN_member_94 dN_member_97 (by decide) (by decide) (by decide) (by decide)
  · refine lv_iload_n hx hb dN_member_50 rfl (lv_at hl 2 rfl) ?_
    refine lv_iload hx hb dN_member_51 (lv_at hl 4 rfl) ?_
    refine lv_icmp_ne (tgt := 66) hx hb dN_member_53 (by decide) (fun c_3 => ?_) (fun c_3 => ?_)
    · refine lv_iload hx hb dN_member_66 (lv_at hl 5 rfl) ?_
      refine lv_i2l hx hb dN_member_68 rfl ?_
      refine lv_lconst (v := 1) hx hb dN_member_69 (by decide) ?_
      refine lv_ldc2 (v := 10000) hx hb hown (hts _ xk_511) dN_member_70 ?_
      refine xb_rd (W.runS (As := [.long wd.toInt64, .long 1, .long 10000]) (rest := []) ⟨hx, hb, hml, hown, hts⟩ (cN_requireWithin l E wd.toInt64 1 10000 (va) (vb)) (cwS 3 hts (xb_gi (List.forall_mem_cons.mpr ⟨xk_371, List.forall_mem_cons.mpr ⟨xk_372, List.forall_mem_cons.mpr ⟨xk_40, List.forall_mem_cons.mpr ⟨xk_373, fun _ h => absurd h List.not_mem_nil⟩⟩⟩⟩)) rfl rfl rfl (by decide +kernel) ⟨Nat.le_of_ble_eq_true rfl, Nat.le_of_ble_eq_true rfl⟩) ⟨fun _ _ _ _ q => q, fun U hU hW => ⟨rfl, xb_at0 hAt hU hW, fun k q h => by simp at h⟩⟩ rfl rfl hl.1 rfl (lv_room (Nat.le_of_ble_eq_true rfl)) dN_member_73 ⟨Nat.zero_le _, Nat.zero_le _⟩) ?_
      refine lv_aload_n hx hb dN_member_76 rfl (lv_at hl 0 rfl) ?_
      refine va_get (D := (dC, dI)) (ci := 0) (v := .ref ml) (C := xR_N) (T := xF_N) (N := 11) hx hb hts xi_N hown hK hP 0 rfl rfl 10 (by decide) (hts _ xk_124) (fun _ h9 => h9) hf10 dN_member_77 ?_
      refine xb_rd (W.runV (C := "java/util/ArrayList") (As := []) (rest := []) ⟨hx, hb, hml, hown, hts⟩ (cA_size l E ml gs sn hg1) (cwV 0 hts (xb_gi (List.forall_mem_cons.mpr ⟨xk_513, List.forall_mem_cons.mpr ⟨xk_514, List.forall_mem_cons.mpr ⟨xk_515, List.forall_mem_cons.mpr ⟨xk_44, List.forall_mem_cons.mpr ⟨xk_516, fun _ h => absurd h List.not_mem_nil⟩⟩⟩⟩⟩)) rfl rfl rfl (by decide +kernel) ⟨Nat.le_of_ble_eq_true rfl, Nat.le_of_ble_eq_true rfl⟩) ⟨fun _ _ _ _ q => q, va_recv hK hP (ci := 4) (q0 := 1) rfl rfl, fun U hU hW => ⟨rfl, xb_at0 hAt hU hW, by rw [hU]; exact hP.sub (ws' := [(ml, .inr (4, gs))]) [1] rfl⟩⟩ rfl rfl hl.1 rfl (lv_room (Nat.le_of_ble_eq_true rfl)) dN_member_80 ⟨Nat.zero_le _, Nat.zero_le _⟩) ?_
      refine lv_bipush (v := 6) hx hb dN_member_83 (by decide) ?_
      refine lv_icmp_lt (tgt := 98) hx hb dN_member_85 (by decide) (fun c_4 => ?_) (fun c_4 => ?_)
      · first | exact absurd ⟨(by assumption), (by assumption)⟩ hne | contradiction
      · obtain ⟨q9, hq9⟩ := xt_str E hAt xk_517 xs_137
        exact xt_throw (names := xt_names) hx hb (hml.trans hl.1.symm) E.1 hown hlocks hex (by decide) (by decide) (xt_atoms E hAt _ xt_a3) (hts _ xk_457) (hts _ xk_56) hq9 dN_member_88 dN_member_91 dN_member_92 dN_member_94 dN_member_97 (by decide) (by decide) (by decide) (by decide)
    · first | exact absurd ⟨(by assumption), (by assumption)⟩ hne | contradiction

def fN_in (m0 : Int64) (m1 : Int64) (m2 : Int64) (m3 : Int64) (m4 : Int64) (x : Int32) (y : Int32) : Bool := (fM_grips m0 m1 m2 m3 m4 x y)
set_option maxHeartbeats 4000000 in
set_option maxRecDepth 100000 in
theorem cN_in (l : Launch) {s0 : State} {dC : Nat → ClassId} {dI : Nat → Nat → Nat} {cI cC cL cO : ClassId} (E : xb_Env l s0 dC dI (xtys cI cC cL cO)) (h0 : Nat) (fs : List Value) (ml : Nat) (gs : List Value) (ea : Nat) (ef : Nat → Option Nat) (qm : Nat) (ms : List Value) (sn : Int32) (m0 : Int64) (m1 : Int64) (m2 : Int64) (m3 : Int64) (m4 : Int64) (mi : Int32) (x : Int32) (y : Int32) (hf10 : fs[10]? = some (.ref ml)) (hg0 : gs[0]? = some (.ref ea)) (hg1 : gs[1]? = some (.int sn)) (hm0 : ms[0]? = some (.long m0)) (hm1 : ms[1]? = some (.long m1)) (hm2 : ms[2]? = some (.long m2)) (hm3 : ms[3]? = some (.long m3)) (hm4 : ms[4]? = some (.long m4)) (ka : ¬ mi < 0) (kb : mi < fA_size sn) (ua : ¬ x.toInt64 < (-10000)) (ub : x.toInt64 ≤ 10000) (wa : ¬ y.toInt64 < (-10000)) (wb : y.toInt64 ≤ 10000) (hi : vp_in mi 10) (hq : ef mi.toNatClampNeg = some qm) : Met l yN_in [.code yN_in bN_in 4 (some (.boolean))] ({ frames := 3, cells := 0, slots := 0, locals := 64 }) (va_Pc [.ref h0, .int mi, .int x, .int y] (fun U => xb_At s0 U ∧ va_P (dC, dI) classes [(h0, .inr (0, fs)), (ml, .inr (4, gs)), (ea, .inl (cO, 10, .inr (.inr (.inr (.inr ef))))), (qm, .inr (2, ms))] U.heap)) (xb_R (some (.int (xb_bi (fN_in m0 m1 m2 m3 m4 x y))))) 0 0 (fun _ => False) := by
  refine Met.ofW (cc := bN_in) (maxL := 4) (ret := (some (.boolean))) (by decide) rfl ?_
  intro p e s m args below meth c s₁ B hml hv
  obtain ⟨rfl, hAt, hP⟩ := hv
  have hx := B.exec
  have hb := B.bytes
  have hr := B.returns
  have hts := xb_hts E hAt ([.ref h0, .int mi, .int x, .int y] : List Value).toArray
  have hown : s.vm.findClass "NailRules" = some m.cls := findClass_of_methodNamed B.named
  have hlocks := B.notSynchronized
  have hK := xb_K E hAt
  have hl := lv_entry ([.ref h0, .int mi, .int x, .int y]) (n := 4) (Nat.le_of_ble_eq_true rfl)
  rw [lg_entry_eq]
  generalize (lg_sl ([.ref h0, .int mi, .int x, .int y]) ++ List.replicate (4 - (lg_sl ([.ref h0, .int mi, .int x, .int y])).length) Slot.unset).toArray = ls at hl ⊢
  have hl : lv_has ls 4 [(0, .ref h0), (1, .int mi), (2, .int x), (3, .int y)] := hl
  refine lv_iload_n hx hb dN_in_0 rfl (lv_at hl 1 rfl) ?_
  refine lv_aload_n hx hb dN_in_1 rfl (lv_at hl 0 rfl) ?_
  refine va_get (D := (dC, dI)) (ci := 0) (v := .ref ml) (C := xR_N) (T := xF_N) (N := 11) hx hb hts xi_N hown hK hP 0 rfl rfl 10 (by decide) (hts _ xk_124) (fun _ h9 => h9) hf10 dN_in_2 ?_
  refine xb_rd (W.runV (C := "java/util/ArrayList") (As := []) (rest := [.int mi]) ⟨hx, hb, hml, hown, hts⟩ (cA_size l E ml gs sn hg1) (cwV 0 hts (xb_gi (List.forall_mem_cons.mpr ⟨xk_513, List.forall_mem_cons.mpr ⟨xk_514, List.forall_mem_cons.mpr ⟨xk_515, List.forall_mem_cons.mpr ⟨xk_44, List.forall_mem_cons.mpr ⟨xk_516, fun _ h => absurd h List.not_mem_nil⟩⟩⟩⟩⟩)) rfl rfl rfl (by decide +kernel) ⟨Nat.le_of_ble_eq_true rfl, Nat.le_of_ble_eq_true rfl⟩) ⟨fun _ _ _ _ q => q, va_recv hK hP (ci := 4) (q0 := 1) rfl rfl, fun U hU hW => ⟨rfl, xb_at0 hAt hU hW, by rw [hU]; exact hP.sub (ws' := [(ml, .inr (4, gs))]) [1] rfl⟩⟩ rfl rfl hl.1 rfl (lv_room (Nat.le_of_ble_eq_true rfl)) dN_in_5 ⟨Nat.zero_le _, Nat.zero_le _⟩) ?_
  refine xb_rd (W.runS (As := [.int mi, .int (fA_size sn)]) (rest := []) ⟨hx, hb, hml, hown, hts⟩ (cN_requireIndex l E mi (fA_size sn) (ka) (kb)) (cwS 2 hts (xb_gi (List.forall_mem_cons.mpr ⟨xk_288, List.forall_mem_cons.mpr ⟨xk_289, List.forall_mem_cons.mpr ⟨xk_40, List.forall_mem_cons.mpr ⟨xk_290, fun _ h => absurd h List.not_mem_nil⟩⟩⟩⟩)) rfl rfl rfl (by decide +kernel) ⟨Nat.le_of_ble_eq_true rfl, Nat.le_of_ble_eq_true rfl⟩) ⟨fun _ _ _ _ q => q, fun U hU hW => ⟨rfl, xb_at0 hAt hU hW, fun k q h => by simp at h⟩⟩ rfl rfl hl.1 rfl (lv_room (Nat.le_of_ble_eq_true rfl)) dN_in_8 ⟨Nat.zero_le _, Nat.zero_le _⟩) ?_
  refine lv_iload_n hx hb dN_in_11 rfl (lv_at hl 2 rfl) ?_
  refine lv_i2l hx hb dN_in_12 rfl ?_
  refine lv_ldc2 (v := (-10000)) hx hb hown (hts _ xk_510) dN_in_13 ?_
  refine lv_ldc2 (v := 10000) hx hb hown (hts _ xk_511) dN_in_16 ?_
  refine xb_rd (W.runS (As := [.long x.toInt64, .long (-10000), .long 10000]) (rest := []) ⟨hx, hb, hml, hown, hts⟩ (cN_requireWithin l E x.toInt64 (-10000) 10000 (ua) (ub)) (cwS 3 hts (xb_gi (List.forall_mem_cons.mpr ⟨xk_371, List.forall_mem_cons.mpr ⟨xk_372, List.forall_mem_cons.mpr ⟨xk_40, List.forall_mem_cons.mpr ⟨xk_373, fun _ h => absurd h List.not_mem_nil⟩⟩⟩⟩)) rfl rfl rfl (by decide +kernel) ⟨Nat.le_of_ble_eq_true rfl, Nat.le_of_ble_eq_true rfl⟩) ⟨fun _ _ _ _ q => q, fun U hU hW => ⟨rfl, xb_at0 hAt hU hW, fun k q h => by simp at h⟩⟩ rfl rfl hl.1 rfl (lv_room (Nat.le_of_ble_eq_true rfl)) dN_in_19 ⟨Nat.zero_le _, Nat.zero_le _⟩) ?_
  refine lv_iload_n hx hb dN_in_22 rfl (lv_at hl 3 rfl) ?_
  refine lv_i2l hx hb dN_in_23 rfl ?_
  refine lv_ldc2 (v := (-10000)) hx hb hown (hts _ xk_510) dN_in_24 ?_
  refine lv_ldc2 (v := 10000) hx hb hown (hts _ xk_511) dN_in_27 ?_
  refine xb_rd (W.runS (As := [.long y.toInt64, .long (-10000), .long 10000]) (rest := []) ⟨hx, hb, hml, hown, hts⟩ (cN_requireWithin l E y.toInt64 (-10000) 10000 (wa) (wb)) (cwS 3 hts (xb_gi (List.forall_mem_cons.mpr ⟨xk_371, List.forall_mem_cons.mpr ⟨xk_372, List.forall_mem_cons.mpr ⟨xk_40, List.forall_mem_cons.mpr ⟨xk_373, fun _ h => absurd h List.not_mem_nil⟩⟩⟩⟩)) rfl rfl rfl (by decide +kernel) ⟨Nat.le_of_ble_eq_true rfl, Nat.le_of_ble_eq_true rfl⟩) ⟨fun _ _ _ _ q => q, fun U hU hW => ⟨rfl, xb_at0 hAt hU hW, fun k q h => by simp at h⟩⟩ rfl rfl hl.1 rfl (lv_room (Nat.le_of_ble_eq_true rfl)) dN_in_30 ⟨Nat.zero_le _, Nat.zero_le _⟩) ?_
  refine lv_aload_n hx hb dN_in_33 rfl (lv_at hl 0 rfl) ?_
  refine va_get (D := (dC, dI)) (ci := 0) (v := .ref ml) (C := xR_N) (T := xF_N) (N := 11) hx hb hts xi_N hown hK hP 0 rfl rfl 10 (by decide) (hts _ xk_124) (fun _ h9 => h9) hf10 dN_in_34 ?_
  refine lv_iload_n hx hb dN_in_37 rfl (lv_at hl 1 rfl) ?_
  refine xb_rd (W.runV (C := "java/util/ArrayList") (As := [.int mi]) (rest := []) ⟨hx, hb, hml, hown, hts⟩ (cA_get l E ml gs ea ef sn mi hg0 hg1 (ka) (kb) (hi) (hq)) (cwV 1 hts (xb_gi (List.forall_mem_cons.mpr ⟨xk_598, List.forall_mem_cons.mpr ⟨xk_599, List.forall_mem_cons.mpr ⟨xk_600, List.forall_mem_cons.mpr ⟨xk_44, List.forall_mem_cons.mpr ⟨xk_601, fun _ h => absurd h List.not_mem_nil⟩⟩⟩⟩⟩)) rfl rfl rfl (by decide +kernel) ⟨Nat.le_of_ble_eq_true rfl, Nat.le_of_ble_eq_true rfl⟩) ⟨fun _ _ _ _ q => q, va_recv hK hP (ci := 4) (q0 := 1) rfl rfl, fun U hU hW => ⟨rfl, xb_at0 hAt hU hW, by rw [hU]; exact hP.sub (ws' := [(ml, .inr (4, gs)), (ea, .inl (cO, 10, .inr (.inr (.inr (.inr ef)))))]) [1, 2] rfl⟩⟩ rfl rfl hl.1 rfl (lv_room (Nat.le_of_ble_eq_true rfl)) dN_in_38 ⟨Nat.zero_le _, Nat.zero_le _⟩) ?_
  refine va_castE hx hb hown (hts _ xk_518) (va_recv hK hP (ci := 2) (q0 := 3) rfl rfl) dN_in_41 ?_
  refine lv_iload_n hx hb dN_in_44 rfl (lv_at hl 2 rfl) ?_
  refine lv_iload_n hx hb dN_in_45 rfl (lv_at hl 3 rfl) ?_
  refine xb_rdN (va_runVN (C := "NailRules$Member") (As := [.int x, .int y]) (rest := []) ⟨hx, hb, hml, hown, hts⟩ (cM_grips l E qm ms m0 m1 m2 m3 m4 x y hm0 hm1 hm2 hm3 hm4) ⟨va_cnB 2 hts (xb_gi (List.forall_mem_cons.mpr ⟨xk_613, fun _ h => absurd h List.not_mem_nil⟩)) rfl rfl rfl (xb_nest E hAt xk_610) (hts _ xk_57) (by decide +kernel) ⟨Nat.le_of_ble_eq_true rfl, Nat.le_of_ble_eq_true rfl⟩, hts _ xk_612, hts _ xk_26⟩ ⟨fun _ _ _ _ q => q, va_recv hK hP (ci := 2) (q0 := 3) rfl rfl, fun U hU hW => ⟨rfl, xb_at0 hAt hU hW, by rw [hU]; exact hP.sub (ws' := [(qm, .inr (2, ms))]) [3] rfl⟩⟩ rfl rfl hl.1 rfl (lv_room (Nat.le_of_ble_eq_true rfl)) dN_in_46 ⟨Nat.zero_le _, Nat.zero_le _⟩) ?_
  have e_f : fN_in m0 m1 m2 m3 m4 x y = (fM_grips m0 m1 m2 m3 m4 x y) := rfl
  exact W.zret (v := (xb_bi (fM_grips m0 m1 m2 m3 m4 x y))) hx hb hr (xb_bi_n _) (fun t ht hW => ⟨by rw [e_f]; try rfl, ht⟩) (fun _ h => by cases h) dN_in_49

set_option maxHeartbeats 4000000 in
set_option maxRecDepth 100000 in
theorem cN_in_x1 (l : Launch) {s0 : State} {dC : Nat → ClassId} {dI : Nat → Nat → Nat} {cI cC cL cO : ClassId} (E : xb_Env l s0 dC dI (xtys cI cC cL cO)) (h0 : Nat) (fs : List Value) (ml : Nat) (gs : List Value) (sn : Int32) (mi : Int32) (x : Int32) (y : Int32) (hf10 : fs[10]? = some (.ref ml)) (hg1 : gs[1]? = some (.int sn)) (hb9 : mi < 0 ∨ ¬ mi < fA_size sn) : xt_Met l yN_in [.code yN_in bN_in 4 (some (.boolean))] ({ frames := 7, cells := 1, slots := 6, locals := 103 }) (va_Pc [.ref h0, .int mi, .int x, .int y] (fun U => xb_At s0 U ∧ va_P (dC, dI) classes [(h0, .inr (0, fs)), (ml, .inr (4, gs))] U.heap)) "java/lang/IndexOutOfBoundsException" := by
  refine xt_Met.ofW (cc := bN_in) (maxL := 4) (ret := (some (.boolean))) (by decide) rfl ?_
  intro p e s m args below meth c s₁ B hml hex hv
  obtain ⟨rfl, hAt, hP⟩ := hv
  have hx := B.exec
  have hb := B.bytes
  have hr := B.returns
  have hts := xb_hts E hAt ([.ref h0, .int mi, .int x, .int y] : List Value).toArray
  have hown : s.vm.findClass "NailRules" = some m.cls := findClass_of_methodNamed B.named
  have hlocks := B.notSynchronized
  have hK := xb_K E hAt
  have hl := lv_entry ([.ref h0, .int mi, .int x, .int y]) (n := 4) (Nat.le_of_ble_eq_true rfl)
  rw [lg_entry_eq]
  generalize (lg_sl ([.ref h0, .int mi, .int x, .int y]) ++ List.replicate (4 - (lg_sl ([.ref h0, .int mi, .int x, .int y])).length) Slot.unset).toArray = ls at hl ⊢
  have hl : lv_has ls 4 [(0, .ref h0), (1, .int mi), (2, .int x), (3, .int y)] := hl
  refine lv_iload_n hx hb dN_in_0 rfl (lv_at hl 1 rfl) ?_
  refine lv_aload_n hx hb dN_in_1 rfl (lv_at hl 0 rfl) ?_
  refine va_get (D := (dC, dI)) (ci := 0) (v := .ref ml) (C := xR_N) (T := xF_N) (N := 11) hx hb hts xi_N hown hK hP 0 rfl rfl 10 (by decide) (hts _ xk_124) (fun _ h9 => h9) hf10 dN_in_2 ?_
  refine xb_rd (W.runV (C := "java/util/ArrayList") (As := []) (rest := [.int mi]) ⟨hx, hb, hml, hown, hts⟩ (cA_size l E ml gs sn hg1) (cwV 0 hts (xb_gi (List.forall_mem_cons.mpr ⟨xk_513, List.forall_mem_cons.mpr ⟨xk_514, List.forall_mem_cons.mpr ⟨xk_515, List.forall_mem_cons.mpr ⟨xk_44, List.forall_mem_cons.mpr ⟨xk_516, fun _ h => absurd h List.not_mem_nil⟩⟩⟩⟩⟩)) rfl rfl rfl (by decide +kernel) ⟨Nat.le_of_ble_eq_true rfl, Nat.le_of_ble_eq_true rfl⟩) ⟨fun _ _ _ _ q => q, va_recv hK hP (ci := 4) (q0 := 1) rfl rfl, fun U hU hW => ⟨rfl, xb_at0 hAt hU hW, by rw [hU]; exact hP.sub (ws' := [(ml, .inr (4, gs))]) [1] rfl⟩⟩ rfl rfl hl.1 rfl (lv_room (Nat.le_of_ble_eq_true rfl)) dN_in_5 ⟨Nat.zero_le _, Nat.zero_le _⟩) ?_
  exact xt_pass hlocks hex (xt_runS (As := [.int mi, .int (fA_size sn)]) (rest := []) ⟨hx, hb, hml, hown, hts⟩ (cN_requireIndex_x l E mi (fA_size sn) (hb9)) (cwS 2 hts (xb_gi (List.forall_mem_cons.mpr ⟨xk_288, List.forall_mem_cons.mpr ⟨xk_289, List.forall_mem_cons.mpr ⟨xk_40, List.forall_mem_cons.mpr ⟨xk_290, fun _ h => absurd h List.not_mem_nil⟩⟩⟩⟩)) rfl rfl rfl (by decide +kernel) ⟨Nat.le_of_ble_eq_true rfl, Nat.le_of_ble_eq_true rfl⟩) ⟨fun _ _ _ _ q => q, fun U hU hW => ⟨rfl, xb_at0 hAt hU hW, fun k q h => by simp at h⟩⟩ rfl rfl hl.1 rfl (lv_room (Nat.le_of_ble_eq_true rfl)) dN_in_8 ⟨Nat.le_of_ble_eq_true rfl, Nat.le_of_ble_eq_true rfl⟩)

set_option maxHeartbeats 4000000 in
set_option maxRecDepth 100000 in
theorem cN_in_x2 (l : Launch) {s0 : State} {dC : Nat → ClassId} {dI : Nat → Nat → Nat} {cI cC cL cO : ClassId} (E : xb_Env l s0 dC dI (xtys cI cC cL cO)) (h0 : Nat) (fs : List Value) (ml : Nat) (gs : List Value) (sn : Int32) (mi : Int32) (x : Int32) (y : Int32) (hf10 : fs[10]? = some (.ref ml)) (hg1 : gs[1]? = some (.int sn)) (ka : ¬ mi < 0) (kb : mi < fA_size sn) (hb9 : x.toInt64 < (-10000) ∨ ¬ x.toInt64 ≤ 10000) : xt_Met l yN_in [.code yN_in bN_in 4 (some (.boolean))] ({ frames := 7, cells := 1, slots := 6, locals := 107 }) (va_Pc [.ref h0, .int mi, .int x, .int y] (fun U => xb_At s0 U ∧ va_P (dC, dI) classes [(h0, .inr (0, fs)), (ml, .inr (4, gs))] U.heap)) "java/lang/IllegalArgumentException" := by
  refine xt_Met.ofW (cc := bN_in) (maxL := 4) (ret := (some (.boolean))) (by decide) rfl ?_
  intro p e s m args below meth c s₁ B hml hex hv
  obtain ⟨rfl, hAt, hP⟩ := hv
  have hx := B.exec
  have hb := B.bytes
  have hr := B.returns
  have hts := xb_hts E hAt ([.ref h0, .int mi, .int x, .int y] : List Value).toArray
  have hown : s.vm.findClass "NailRules" = some m.cls := findClass_of_methodNamed B.named
  have hlocks := B.notSynchronized
  have hK := xb_K E hAt
  have hl := lv_entry ([.ref h0, .int mi, .int x, .int y]) (n := 4) (Nat.le_of_ble_eq_true rfl)
  rw [lg_entry_eq]
  generalize (lg_sl ([.ref h0, .int mi, .int x, .int y]) ++ List.replicate (4 - (lg_sl ([.ref h0, .int mi, .int x, .int y])).length) Slot.unset).toArray = ls at hl ⊢
  have hl : lv_has ls 4 [(0, .ref h0), (1, .int mi), (2, .int x), (3, .int y)] := hl
  refine lv_iload_n hx hb dN_in_0 rfl (lv_at hl 1 rfl) ?_
  refine lv_aload_n hx hb dN_in_1 rfl (lv_at hl 0 rfl) ?_
  refine va_get (D := (dC, dI)) (ci := 0) (v := .ref ml) (C := xR_N) (T := xF_N) (N := 11) hx hb hts xi_N hown hK hP 0 rfl rfl 10 (by decide) (hts _ xk_124) (fun _ h9 => h9) hf10 dN_in_2 ?_
  refine xb_rd (W.runV (C := "java/util/ArrayList") (As := []) (rest := [.int mi]) ⟨hx, hb, hml, hown, hts⟩ (cA_size l E ml gs sn hg1) (cwV 0 hts (xb_gi (List.forall_mem_cons.mpr ⟨xk_513, List.forall_mem_cons.mpr ⟨xk_514, List.forall_mem_cons.mpr ⟨xk_515, List.forall_mem_cons.mpr ⟨xk_44, List.forall_mem_cons.mpr ⟨xk_516, fun _ h => absurd h List.not_mem_nil⟩⟩⟩⟩⟩)) rfl rfl rfl (by decide +kernel) ⟨Nat.le_of_ble_eq_true rfl, Nat.le_of_ble_eq_true rfl⟩) ⟨fun _ _ _ _ q => q, va_recv hK hP (ci := 4) (q0 := 1) rfl rfl, fun U hU hW => ⟨rfl, xb_at0 hAt hU hW, by rw [hU]; exact hP.sub (ws' := [(ml, .inr (4, gs))]) [1] rfl⟩⟩ rfl rfl hl.1 rfl (lv_room (Nat.le_of_ble_eq_true rfl)) dN_in_5 ⟨Nat.zero_le _, Nat.zero_le _⟩) ?_
  refine xb_rd (W.runS (As := [.int mi, .int (fA_size sn)]) (rest := []) ⟨hx, hb, hml, hown, hts⟩ (cN_requireIndex l E mi (fA_size sn) (ka) (kb)) (cwS 2 hts (xb_gi (List.forall_mem_cons.mpr ⟨xk_288, List.forall_mem_cons.mpr ⟨xk_289, List.forall_mem_cons.mpr ⟨xk_40, List.forall_mem_cons.mpr ⟨xk_290, fun _ h => absurd h List.not_mem_nil⟩⟩⟩⟩)) rfl rfl rfl (by decide +kernel) ⟨Nat.le_of_ble_eq_true rfl, Nat.le_of_ble_eq_true rfl⟩) ⟨fun _ _ _ _ q => q, fun U hU hW => ⟨rfl, xb_at0 hAt hU hW, fun k q h => by simp at h⟩⟩ rfl rfl hl.1 rfl (lv_room (Nat.le_of_ble_eq_true rfl)) dN_in_8 ⟨Nat.zero_le _, Nat.zero_le _⟩) ?_
  refine lv_iload_n hx hb dN_in_11 rfl (lv_at hl 2 rfl) ?_
  refine lv_i2l hx hb dN_in_12 rfl ?_
  refine lv_ldc2 (v := (-10000)) hx hb hown (hts _ xk_510) dN_in_13 ?_
  refine lv_ldc2 (v := 10000) hx hb hown (hts _ xk_511) dN_in_16 ?_
  exact xt_pass hlocks hex (xt_runS (As := [.long x.toInt64, .long (-10000), .long 10000]) (rest := []) ⟨hx, hb, hml, hown, hts⟩ (cN_requireWithin_x l E x.toInt64 (-10000) 10000 (hb9)) (cwS 3 hts (xb_gi (List.forall_mem_cons.mpr ⟨xk_371, List.forall_mem_cons.mpr ⟨xk_372, List.forall_mem_cons.mpr ⟨xk_40, List.forall_mem_cons.mpr ⟨xk_373, fun _ h => absurd h List.not_mem_nil⟩⟩⟩⟩)) rfl rfl rfl (by decide +kernel) ⟨Nat.le_of_ble_eq_true rfl, Nat.le_of_ble_eq_true rfl⟩) ⟨fun _ _ _ _ q => q, fun U hU hW => ⟨rfl, xb_at0 hAt hU hW, fun k q h => by simp at h⟩⟩ rfl rfl hl.1 rfl (lv_room (Nat.le_of_ble_eq_true rfl)) dN_in_19 ⟨Nat.le_of_ble_eq_true rfl, Nat.le_of_ble_eq_true rfl⟩)

set_option maxHeartbeats 4000000 in
set_option maxRecDepth 100000 in
theorem cN_in_x3 (l : Launch) {s0 : State} {dC : Nat → ClassId} {dI : Nat → Nat → Nat} {cI cC cL cO : ClassId} (E : xb_Env l s0 dC dI (xtys cI cC cL cO)) (h0 : Nat) (fs : List Value) (ml : Nat) (gs : List Value) (sn : Int32) (mi : Int32) (x : Int32) (y : Int32) (hf10 : fs[10]? = some (.ref ml)) (hg1 : gs[1]? = some (.int sn)) (ka : ¬ mi < 0) (kb : mi < fA_size sn) (ua : ¬ x.toInt64 < (-10000)) (ub : x.toInt64 ≤ 10000) (hb9 : y.toInt64 < (-10000) ∨ ¬ y.toInt64 ≤ 10000) : xt_Met l yN_in [.code yN_in bN_in 4 (some (.boolean))] ({ frames := 7, cells := 1, slots := 6, locals := 107 }) (va_Pc [.ref h0, .int mi, .int x, .int y] (fun U => xb_At s0 U ∧ va_P (dC, dI) classes [(h0, .inr (0, fs)), (ml, .inr (4, gs))] U.heap)) "java/lang/IllegalArgumentException" := by
  refine xt_Met.ofW (cc := bN_in) (maxL := 4) (ret := (some (.boolean))) (by decide) rfl ?_
  intro p e s m args below meth c s₁ B hml hex hv
  obtain ⟨rfl, hAt, hP⟩ := hv
  have hx := B.exec
  have hb := B.bytes
  have hr := B.returns
  have hts := xb_hts E hAt ([.ref h0, .int mi, .int x, .int y] : List Value).toArray
  have hown : s.vm.findClass "NailRules" = some m.cls := findClass_of_methodNamed B.named
  have hlocks := B.notSynchronized
  have hK := xb_K E hAt
  have hl := lv_entry ([.ref h0, .int mi, .int x, .int y]) (n := 4) (Nat.le_of_ble_eq_true rfl)
  rw [lg_entry_eq]
  generalize (lg_sl ([.ref h0, .int mi, .int x, .int y]) ++ List.replicate (4 - (lg_sl ([.ref h0, .int mi, .int x, .int y])).length) Slot.unset).toArray = ls at hl ⊢
  have hl : lv_has ls 4 [(0, .ref h0), (1, .int mi), (2, .int x), (3, .int y)] := hl
  refine lv_iload_n hx hb dN_in_0 rfl (lv_at hl 1 rfl) ?_
  refine lv_aload_n hx hb dN_in_1 rfl (lv_at hl 0 rfl) ?_
  refine va_get (D := (dC, dI)) (ci := 0) (v := .ref ml) (C := xR_N) (T := xF_N) (N := 11) hx hb hts xi_N hown hK hP 0 rfl rfl 10 (by decide) (hts _ xk_124) (fun _ h9 => h9) hf10 dN_in_2 ?_
  refine xb_rd (W.runV (C := "java/util/ArrayList") (As := []) (rest := [.int mi]) ⟨hx, hb, hml, hown, hts⟩ (cA_size l E ml gs sn hg1) (cwV 0 hts (xb_gi (List.forall_mem_cons.mpr ⟨xk_513, List.forall_mem_cons.mpr ⟨xk_514, List.forall_mem_cons.mpr ⟨xk_515, List.forall_mem_cons.mpr ⟨xk_44, List.forall_mem_cons.mpr ⟨xk_516, fun _ h => absurd h List.not_mem_nil⟩⟩⟩⟩⟩)) rfl rfl rfl (by decide +kernel) ⟨Nat.le_of_ble_eq_true rfl, Nat.le_of_ble_eq_true rfl⟩) ⟨fun _ _ _ _ q => q, va_recv hK hP (ci := 4) (q0 := 1) rfl rfl, fun U hU hW => ⟨rfl, xb_at0 hAt hU hW, by rw [hU]; exact hP.sub (ws' := [(ml, .inr (4, gs))]) [1] rfl⟩⟩ rfl rfl hl.1 rfl (lv_room (Nat.le_of_ble_eq_true rfl)) dN_in_5 ⟨Nat.zero_le _, Nat.zero_le _⟩) ?_
  refine xb_rd (W.runS (As := [.int mi, .int (fA_size sn)]) (rest := []) ⟨hx, hb, hml, hown, hts⟩ (cN_requireIndex l E mi (fA_size sn) (ka) (kb)) (cwS 2 hts (xb_gi (List.forall_mem_cons.mpr ⟨xk_288, List.forall_mem_cons.mpr ⟨xk_289, List.forall_mem_cons.mpr ⟨xk_40, List.forall_mem_cons.mpr ⟨xk_290, fun _ h => absurd h List.not_mem_nil⟩⟩⟩⟩)) rfl rfl rfl (by decide +kernel) ⟨Nat.le_of_ble_eq_true rfl, Nat.le_of_ble_eq_true rfl⟩) ⟨fun _ _ _ _ q => q, fun U hU hW => ⟨rfl, xb_at0 hAt hU hW, fun k q h => by simp at h⟩⟩ rfl rfl hl.1 rfl (lv_room (Nat.le_of_ble_eq_true rfl)) dN_in_8 ⟨Nat.zero_le _, Nat.zero_le _⟩) ?_
  refine lv_iload_n hx hb dN_in_11 rfl (lv_at hl 2 rfl) ?_
  refine lv_i2l hx hb dN_in_12 rfl ?_
  refine lv_ldc2 (v := (-10000)) hx hb hown (hts _ xk_510) dN_in_13 ?_
  refine lv_ldc2 (v := 10000) hx hb hown (hts _ xk_511) dN_in_16 ?_
  refine xb_rd (W.runS (As := [.long x.toInt64, .long (-10000), .long 10000]) (rest := []) ⟨hx, hb, hml, hown, hts⟩ (cN_requireWithin l E x.toInt64 (-10000) 10000 (ua) (ub)) (cwS 3 hts (xb_gi (List.forall_mem_cons.mpr ⟨xk_371, List.forall_mem_cons.mpr ⟨xk_372, List.forall_mem_cons.mpr ⟨xk_40, List.forall_mem_cons.mpr ⟨xk_373, fun _ h => absurd h List.not_mem_nil⟩⟩⟩⟩)) rfl rfl rfl (by decide +kernel) ⟨Nat.le_of_ble_eq_true rfl, Nat.le_of_ble_eq_true rfl⟩) ⟨fun _ _ _ _ q => q, fun U hU hW => ⟨rfl, xb_at0 hAt hU hW, fun k q h => by simp at h⟩⟩ rfl rfl hl.1 rfl (lv_room (Nat.le_of_ble_eq_true rfl)) dN_in_19 ⟨Nat.zero_le _, Nat.zero_le _⟩) ?_
  refine lv_iload_n hx hb dN_in_22 rfl (lv_at hl 3 rfl) ?_
  refine lv_i2l hx hb dN_in_23 rfl ?_
  refine lv_ldc2 (v := (-10000)) hx hb hown (hts _ xk_510) dN_in_24 ?_
  refine lv_ldc2 (v := 10000) hx hb hown (hts _ xk_511) dN_in_27 ?_
  exact xt_pass hlocks hex (xt_runS (As := [.long y.toInt64, .long (-10000), .long 10000]) (rest := []) ⟨hx, hb, hml, hown, hts⟩ (cN_requireWithin_x l E y.toInt64 (-10000) 10000 (hb9)) (cwS 3 hts (xb_gi (List.forall_mem_cons.mpr ⟨xk_371, List.forall_mem_cons.mpr ⟨xk_372, List.forall_mem_cons.mpr ⟨xk_40, List.forall_mem_cons.mpr ⟨xk_373, fun _ h => absurd h List.not_mem_nil⟩⟩⟩⟩)) rfl rfl rfl (by decide +kernel) ⟨Nat.le_of_ble_eq_true rfl, Nat.le_of_ble_eq_true rfl⟩) ⟨fun _ _ _ _ q => q, fun U hU hW => ⟨rfl, xb_at0 hAt hU hW, fun k q h => by simp at h⟩⟩ rfl rfl hl.1 rfl (lv_room (Nat.le_of_ble_eq_true rfl)) dN_in_30 ⟨Nat.le_of_ble_eq_true rfl, Nat.le_of_ble_eq_true rfl⟩)

set_option maxHeartbeats 4000000 in
set_option maxRecDepth 100000 in
theorem cN_teeth_x1 (l : Launch) {s0 : State} {dC : Nat → ClassId} {dI : Nat → Nat → Nat} {cI cC cL cO : ClassId} (E : xb_Env l s0 dC dI (xtys cI cC cL cO)) (h0 : Nat) (fs : List Value) (ml : Nat) (gs : List Value) (sn : Int32) (mi : Int32) (x : Int32) (y : Int32) (w : Int32) (h : Int32) (stp : Int32) (hf10 : fs[10]? = some (.ref ml)) (hg1 : gs[1]? = some (.int sn)) (hb9 : mi < 0 ∨ ¬ mi < fA_size sn) : xt_Met l yN_teeth [.code yN_teeth bN_teeth 11 (some (.int))] ({ frames := 7, cells := 1, slots := 6, locals := 103 }) (va_Pc [.ref h0, .int mi, .int x, .int y, .int w, .int h, .int stp] (fun U => xb_At s0 U ∧ va_P (dC, dI) classes [(h0, .inr (0, fs)), (ml, .inr (4, gs))] U.heap)) "java/lang/IndexOutOfBoundsException" := by
  refine xt_Met.ofW (cc := bN_teeth) (maxL := 11) (ret := (some (.int))) (by decide) rfl ?_
  intro p e s m args below meth c s₁ B hml hex hv
  obtain ⟨rfl, hAt, hP⟩ := hv
  have hx := B.exec
  have hb := B.bytes
  have hr := B.returns
  have hts := xb_hts E hAt ([.ref h0, .int mi, .int x, .int y, .int w, .int h, .int stp] : List Value).toArray
  have hown : s.vm.findClass "NailRules" = some m.cls := findClass_of_methodNamed B.named
  have hlocks := B.notSynchronized
  have hK := xb_K E hAt
  have hl := lv_entry ([.ref h0, .int mi, .int x, .int y, .int w, .int h, .int stp]) (n := 11) (Nat.le_of_ble_eq_true rfl)
  rw [lg_entry_eq]
  generalize (lg_sl ([.ref h0, .int mi, .int x, .int y, .int w, .int h, .int stp]) ++ List.replicate (11 - (lg_sl ([.ref h0, .int mi, .int x, .int y, .int w, .int h, .int stp])).length) Slot.unset).toArray = ls at hl ⊢
  have hl : lv_has ls 11 [(0, .ref h0), (1, .int mi), (2, .int x), (3, .int y), (4, .int w), (5, .int h), (6, .int stp)] := hl
  refine lv_iload_n hx hb dN_teeth_0 rfl (lv_at hl 1 rfl) ?_
  refine lv_aload_n hx hb dN_teeth_1 rfl (lv_at hl 0 rfl) ?_
  refine va_get (D := (dC, dI)) (ci := 0) (v := .ref ml) (C := xR_N) (T := xF_N) (N := 11) hx hb hts xi_N hown hK hP 0 rfl rfl 10 (by decide) (hts _ xk_124) (fun _ h9 => h9) hf10 dN_teeth_2 ?_
  refine xb_rd (W.runV (C := "java/util/ArrayList") (As := []) (rest := [.int mi]) ⟨hx, hb, hml, hown, hts⟩ (cA_size l E ml gs sn hg1) (cwV 0 hts (xb_gi (List.forall_mem_cons.mpr ⟨xk_513, List.forall_mem_cons.mpr ⟨xk_514, List.forall_mem_cons.mpr ⟨xk_515, List.forall_mem_cons.mpr ⟨xk_44, List.forall_mem_cons.mpr ⟨xk_516, fun _ h => absurd h List.not_mem_nil⟩⟩⟩⟩⟩)) rfl rfl rfl (by decide +kernel) ⟨Nat.le_of_ble_eq_true rfl, Nat.le_of_ble_eq_true rfl⟩) ⟨fun _ _ _ _ q => q, va_recv hK hP (ci := 4) (q0 := 1) rfl rfl, fun U hU hW => ⟨rfl, xb_at0 hAt hU hW, by rw [hU]; exact hP.sub (ws' := [(ml, .inr (4, gs))]) [1] rfl⟩⟩ rfl rfl hl.1 rfl (lv_room (Nat.le_of_ble_eq_true rfl)) dN_teeth_5 ⟨Nat.zero_le _, Nat.zero_le _⟩) ?_
  exact xt_pass hlocks hex (xt_runS (As := [.int mi, .int (fA_size sn)]) (rest := []) ⟨hx, hb, hml, hown, hts⟩ (cN_requireIndex_x l E mi (fA_size sn) (hb9)) (cwS 2 hts (xb_gi (List.forall_mem_cons.mpr ⟨xk_288, List.forall_mem_cons.mpr ⟨xk_289, List.forall_mem_cons.mpr ⟨xk_40, List.forall_mem_cons.mpr ⟨xk_290, fun _ h => absurd h List.not_mem_nil⟩⟩⟩⟩)) rfl rfl rfl (by decide +kernel) ⟨Nat.le_of_ble_eq_true rfl, Nat.le_of_ble_eq_true rfl⟩) ⟨fun _ _ _ _ q => q, fun U hU hW => ⟨rfl, xb_at0 hAt hU hW, fun k q h => by simp at h⟩⟩ rfl rfl hl.1 rfl (lv_room (Nat.le_of_ble_eq_true rfl)) dN_teeth_8 ⟨Nat.le_of_ble_eq_true rfl, Nat.le_of_ble_eq_true rfl⟩)

set_option maxHeartbeats 4000000 in
set_option maxRecDepth 100000 in
theorem cN_teeth_x2 (l : Launch) {s0 : State} {dC : Nat → ClassId} {dI : Nat → Nat → Nat} {cI cC cL cO : ClassId} (E : xb_Env l s0 dC dI (xtys cI cC cL cO)) (h0 : Nat) (fs : List Value) (ml : Nat) (gs : List Value) (sn : Int32) (mi : Int32) (x : Int32) (y : Int32) (w : Int32) (h : Int32) (stp : Int32) (hf10 : fs[10]? = some (.ref ml)) (hg1 : gs[1]? = some (.int sn)) (ka : ¬ mi < 0) (kb : mi < fA_size sn) (hb9 : x.toInt64 < (-10000) ∨ ¬ x.toInt64 ≤ 10000) : xt_Met l yN_teeth [.code yN_teeth bN_teeth 11 (some (.int))] ({ frames := 7, cells := 1, slots := 6, locals := 107 }) (va_Pc [.ref h0, .int mi, .int x, .int y, .int w, .int h, .int stp] (fun U => xb_At s0 U ∧ va_P (dC, dI) classes [(h0, .inr (0, fs)), (ml, .inr (4, gs))] U.heap)) "java/lang/IllegalArgumentException" := by
  refine xt_Met.ofW (cc := bN_teeth) (maxL := 11) (ret := (some (.int))) (by decide) rfl ?_
  intro p e s m args below meth c s₁ B hml hex hv
  obtain ⟨rfl, hAt, hP⟩ := hv
  have hx := B.exec
  have hb := B.bytes
  have hr := B.returns
  have hts := xb_hts E hAt ([.ref h0, .int mi, .int x, .int y, .int w, .int h, .int stp] : List Value).toArray
  have hown : s.vm.findClass "NailRules" = some m.cls := findClass_of_methodNamed B.named
  have hlocks := B.notSynchronized
  have hK := xb_K E hAt
  have hl := lv_entry ([.ref h0, .int mi, .int x, .int y, .int w, .int h, .int stp]) (n := 11) (Nat.le_of_ble_eq_true rfl)
  rw [lg_entry_eq]
  generalize (lg_sl ([.ref h0, .int mi, .int x, .int y, .int w, .int h, .int stp]) ++ List.replicate (11 - (lg_sl ([.ref h0, .int mi, .int x, .int y, .int w, .int h, .int stp])).length) Slot.unset).toArray = ls at hl ⊢
  have hl : lv_has ls 11 [(0, .ref h0), (1, .int mi), (2, .int x), (3, .int y), (4, .int w), (5, .int h), (6, .int stp)] := hl
  refine lv_iload_n hx hb dN_teeth_0 rfl (lv_at hl 1 rfl) ?_
  refine lv_aload_n hx hb dN_teeth_1 rfl (lv_at hl 0 rfl) ?_
  refine va_get (D := (dC, dI)) (ci := 0) (v := .ref ml) (C := xR_N) (T := xF_N) (N := 11) hx hb hts xi_N hown hK hP 0 rfl rfl 10 (by decide) (hts _ xk_124) (fun _ h9 => h9) hf10 dN_teeth_2 ?_
  refine xb_rd (W.runV (C := "java/util/ArrayList") (As := []) (rest := [.int mi]) ⟨hx, hb, hml, hown, hts⟩ (cA_size l E ml gs sn hg1) (cwV 0 hts (xb_gi (List.forall_mem_cons.mpr ⟨xk_513, List.forall_mem_cons.mpr ⟨xk_514, List.forall_mem_cons.mpr ⟨xk_515, List.forall_mem_cons.mpr ⟨xk_44, List.forall_mem_cons.mpr ⟨xk_516, fun _ h => absurd h List.not_mem_nil⟩⟩⟩⟩⟩)) rfl rfl rfl (by decide +kernel) ⟨Nat.le_of_ble_eq_true rfl, Nat.le_of_ble_eq_true rfl⟩) ⟨fun _ _ _ _ q => q, va_recv hK hP (ci := 4) (q0 := 1) rfl rfl, fun U hU hW => ⟨rfl, xb_at0 hAt hU hW, by rw [hU]; exact hP.sub (ws' := [(ml, .inr (4, gs))]) [1] rfl⟩⟩ rfl rfl hl.1 rfl (lv_room (Nat.le_of_ble_eq_true rfl)) dN_teeth_5 ⟨Nat.zero_le _, Nat.zero_le _⟩) ?_
  refine xb_rd (W.runS (As := [.int mi, .int (fA_size sn)]) (rest := []) ⟨hx, hb, hml, hown, hts⟩ (cN_requireIndex l E mi (fA_size sn) (ka) (kb)) (cwS 2 hts (xb_gi (List.forall_mem_cons.mpr ⟨xk_288, List.forall_mem_cons.mpr ⟨xk_289, List.forall_mem_cons.mpr ⟨xk_40, List.forall_mem_cons.mpr ⟨xk_290, fun _ h => absurd h List.not_mem_nil⟩⟩⟩⟩)) rfl rfl rfl (by decide +kernel) ⟨Nat.le_of_ble_eq_true rfl, Nat.le_of_ble_eq_true rfl⟩) ⟨fun _ _ _ _ q => q, fun U hU hW => ⟨rfl, xb_at0 hAt hU hW, fun k q h => by simp at h⟩⟩ rfl rfl hl.1 rfl (lv_room (Nat.le_of_ble_eq_true rfl)) dN_teeth_8 ⟨Nat.zero_le _, Nat.zero_le _⟩) ?_
  refine lv_iload_n hx hb dN_teeth_11 rfl (lv_at hl 2 rfl) ?_
  refine lv_i2l hx hb dN_teeth_12 rfl ?_
  refine lv_ldc2 (v := (-10000)) hx hb hown (hts _ xk_510) dN_teeth_13 ?_
  refine lv_ldc2 (v := 10000) hx hb hown (hts _ xk_511) dN_teeth_16 ?_
  exact xt_pass hlocks hex (xt_runS (As := [.long x.toInt64, .long (-10000), .long 10000]) (rest := []) ⟨hx, hb, hml, hown, hts⟩ (cN_requireWithin_x l E x.toInt64 (-10000) 10000 (hb9)) (cwS 3 hts (xb_gi (List.forall_mem_cons.mpr ⟨xk_371, List.forall_mem_cons.mpr ⟨xk_372, List.forall_mem_cons.mpr ⟨xk_40, List.forall_mem_cons.mpr ⟨xk_373, fun _ h => absurd h List.not_mem_nil⟩⟩⟩⟩)) rfl rfl rfl (by decide +kernel) ⟨Nat.le_of_ble_eq_true rfl, Nat.le_of_ble_eq_true rfl⟩) ⟨fun _ _ _ _ q => q, fun U hU hW => ⟨rfl, xb_at0 hAt hU hW, fun k q h => by simp at h⟩⟩ rfl rfl hl.1 rfl (lv_room (Nat.le_of_ble_eq_true rfl)) dN_teeth_19 ⟨Nat.le_of_ble_eq_true rfl, Nat.le_of_ble_eq_true rfl⟩)

set_option maxHeartbeats 4000000 in
set_option maxRecDepth 100000 in
theorem cN_teeth_x3 (l : Launch) {s0 : State} {dC : Nat → ClassId} {dI : Nat → Nat → Nat} {cI cC cL cO : ClassId} (E : xb_Env l s0 dC dI (xtys cI cC cL cO)) (h0 : Nat) (fs : List Value) (ml : Nat) (gs : List Value) (sn : Int32) (mi : Int32) (x : Int32) (y : Int32) (w : Int32) (h : Int32) (stp : Int32) (hf10 : fs[10]? = some (.ref ml)) (hg1 : gs[1]? = some (.int sn)) (ka : ¬ mi < 0) (kb : mi < fA_size sn) (ua : ¬ x.toInt64 < (-10000)) (ub : x.toInt64 ≤ 10000) (hb9 : y.toInt64 < (-10000) ∨ ¬ y.toInt64 ≤ 10000) : xt_Met l yN_teeth [.code yN_teeth bN_teeth 11 (some (.int))] ({ frames := 7, cells := 1, slots := 6, locals := 107 }) (va_Pc [.ref h0, .int mi, .int x, .int y, .int w, .int h, .int stp] (fun U => xb_At s0 U ∧ va_P (dC, dI) classes [(h0, .inr (0, fs)), (ml, .inr (4, gs))] U.heap)) "java/lang/IllegalArgumentException" := by
  refine xt_Met.ofW (cc := bN_teeth) (maxL := 11) (ret := (some (.int))) (by decide) rfl ?_
  intro p e s m args below meth c s₁ B hml hex hv
  obtain ⟨rfl, hAt, hP⟩ := hv
  have hx := B.exec
  have hb := B.bytes
  have hr := B.returns
  have hts := xb_hts E hAt ([.ref h0, .int mi, .int x, .int y, .int w, .int h, .int stp] : List Value).toArray
  have hown : s.vm.findClass "NailRules" = some m.cls := findClass_of_methodNamed B.named
  have hlocks := B.notSynchronized
  have hK := xb_K E hAt
  have hl := lv_entry ([.ref h0, .int mi, .int x, .int y, .int w, .int h, .int stp]) (n := 11) (Nat.le_of_ble_eq_true rfl)
  rw [lg_entry_eq]
  generalize (lg_sl ([.ref h0, .int mi, .int x, .int y, .int w, .int h, .int stp]) ++ List.replicate (11 - (lg_sl ([.ref h0, .int mi, .int x, .int y, .int w, .int h, .int stp])).length) Slot.unset).toArray = ls at hl ⊢
  have hl : lv_has ls 11 [(0, .ref h0), (1, .int mi), (2, .int x), (3, .int y), (4, .int w), (5, .int h), (6, .int stp)] := hl
  refine lv_iload_n hx hb dN_teeth_0 rfl (lv_at hl 1 rfl) ?_
  refine lv_aload_n hx hb dN_teeth_1 rfl (lv_at hl 0 rfl) ?_
  refine va_get (D := (dC, dI)) (ci := 0) (v := .ref ml) (C := xR_N) (T := xF_N) (N := 11) hx hb hts xi_N hown hK hP 0 rfl rfl 10 (by decide) (hts _ xk_124) (fun _ h9 => h9) hf10 dN_teeth_2 ?_
  refine xb_rd (W.runV (C := "java/util/ArrayList") (As := []) (rest := [.int mi]) ⟨hx, hb, hml, hown, hts⟩ (cA_size l E ml gs sn hg1) (cwV 0 hts (xb_gi (List.forall_mem_cons.mpr ⟨xk_513, List.forall_mem_cons.mpr ⟨xk_514, List.forall_mem_cons.mpr ⟨xk_515, List.forall_mem_cons.mpr ⟨xk_44, List.forall_mem_cons.mpr ⟨xk_516, fun _ h => absurd h List.not_mem_nil⟩⟩⟩⟩⟩)) rfl rfl rfl (by decide +kernel) ⟨Nat.le_of_ble_eq_true rfl, Nat.le_of_ble_eq_true rfl⟩) ⟨fun _ _ _ _ q => q, va_recv hK hP (ci := 4) (q0 := 1) rfl rfl, fun U hU hW => ⟨rfl, xb_at0 hAt hU hW, by rw [hU]; exact hP.sub (ws' := [(ml, .inr (4, gs))]) [1] rfl⟩⟩ rfl rfl hl.1 rfl (lv_room (Nat.le_of_ble_eq_true rfl)) dN_teeth_5 ⟨Nat.zero_le _, Nat.zero_le _⟩) ?_
  refine xb_rd (W.runS (As := [.int mi, .int (fA_size sn)]) (rest := []) ⟨hx, hb, hml, hown, hts⟩ (cN_requireIndex l E mi (fA_size sn) (ka) (kb)) (cwS 2 hts (xb_gi (List.forall_mem_cons.mpr ⟨xk_288, List.forall_mem_cons.mpr ⟨xk_289, List.forall_mem_cons.mpr ⟨xk_40, List.forall_mem_cons.mpr ⟨xk_290, fun _ h => absurd h List.not_mem_nil⟩⟩⟩⟩)) rfl rfl rfl (by decide +kernel) ⟨Nat.le_of_ble_eq_true rfl, Nat.le_of_ble_eq_true rfl⟩) ⟨fun _ _ _ _ q => q, fun U hU hW => ⟨rfl, xb_at0 hAt hU hW, fun k q h => by simp at h⟩⟩ rfl rfl hl.1 rfl (lv_room (Nat.le_of_ble_eq_true rfl)) dN_teeth_8 ⟨Nat.zero_le _, Nat.zero_le _⟩) ?_
  refine lv_iload_n hx hb dN_teeth_11 rfl (lv_at hl 2 rfl) ?_
  refine lv_i2l hx hb dN_teeth_12 rfl ?_
  refine lv_ldc2 (v := (-10000)) hx hb hown (hts _ xk_510) dN_teeth_13 ?_
  refine lv_ldc2 (v := 10000) hx hb hown (hts _ xk_511) dN_teeth_16 ?_
  refine xb_rd (W.runS (As := [.long x.toInt64, .long (-10000), .long 10000]) (rest := []) ⟨hx, hb, hml, hown, hts⟩ (cN_requireWithin l E x.toInt64 (-10000) 10000 (ua) (ub)) (cwS 3 hts (xb_gi (List.forall_mem_cons.mpr ⟨xk_371, List.forall_mem_cons.mpr ⟨xk_372, List.forall_mem_cons.mpr ⟨xk_40, List.forall_mem_cons.mpr ⟨xk_373, fun _ h => absurd h List.not_mem_nil⟩⟩⟩⟩)) rfl rfl rfl (by decide +kernel) ⟨Nat.le_of_ble_eq_true rfl, Nat.le_of_ble_eq_true rfl⟩) ⟨fun _ _ _ _ q => q, fun U hU hW => ⟨rfl, xb_at0 hAt hU hW, fun k q h => by simp at h⟩⟩ rfl rfl hl.1 rfl (lv_room (Nat.le_of_ble_eq_true rfl)) dN_teeth_19 ⟨Nat.zero_le _, Nat.zero_le _⟩) ?_
  refine lv_iload_n hx hb dN_teeth_22 rfl (lv_at hl 3 rfl) ?_
  refine lv_i2l hx hb dN_teeth_23 rfl ?_
  refine lv_ldc2 (v := (-10000)) hx hb hown (hts _ xk_510) dN_teeth_24 ?_
  refine lv_ldc2 (v := 10000) hx hb hown (hts _ xk_511) dN_teeth_27 ?_
  exact xt_pass hlocks hex (xt_runS (As := [.long y.toInt64, .long (-10000), .long 10000]) (rest := []) ⟨hx, hb, hml, hown, hts⟩ (cN_requireWithin_x l E y.toInt64 (-10000) 10000 (hb9)) (cwS 3 hts (xb_gi (List.forall_mem_cons.mpr ⟨xk_371, List.forall_mem_cons.mpr ⟨xk_372, List.forall_mem_cons.mpr ⟨xk_40, List.forall_mem_cons.mpr ⟨xk_373, fun _ h => absurd h List.not_mem_nil⟩⟩⟩⟩)) rfl rfl rfl (by decide +kernel) ⟨Nat.le_of_ble_eq_true rfl, Nat.le_of_ble_eq_true rfl⟩) ⟨fun _ _ _ _ q => q, fun U hU hW => ⟨rfl, xb_at0 hAt hU hW, fun k q h => by simp at h⟩⟩ rfl rfl hl.1 rfl (lv_room (Nat.le_of_ble_eq_true rfl)) dN_teeth_30 ⟨Nat.le_of_ble_eq_true rfl, Nat.le_of_ble_eq_true rfl⟩)

set_option maxHeartbeats 4000000 in
set_option maxRecDepth 100000 in
theorem cN_teeth_x4 (l : Launch) {s0 : State} {dC : Nat → ClassId} {dI : Nat → Nat → Nat} {cI cC cL cO : ClassId} (E : xb_Env l s0 dC dI (xtys cI cC cL cO)) (h0 : Nat) (fs : List Value) (ml : Nat) (gs : List Value) (sn : Int32) (mi : Int32) (x : Int32) (y : Int32) (w : Int32) (h : Int32) (stp : Int32) (hf10 : fs[10]? = some (.ref ml)) (hg1 : gs[1]? = some (.int sn)) (ka : ¬ mi < 0) (kb : mi < fA_size sn) (ua : ¬ x.toInt64 < (-10000)) (ub : x.toInt64 ≤ 10000) (wa : ¬ y.toInt64 < (-10000)) (wb : y.toInt64 ≤ 10000) (hb9 : w.toInt64 < 0 ∨ ¬ w.toInt64 ≤ 1000) : xt_Met l yN_teeth [.code yN_teeth bN_teeth 11 (some (.int))] ({ frames := 7, cells := 1, slots := 6, locals := 107 }) (va_Pc [.ref h0, .int mi, .int x, .int y, .int w, .int h, .int stp] (fun U => xb_At s0 U ∧ va_P (dC, dI) classes [(h0, .inr (0, fs)), (ml, .inr (4, gs))] U.heap)) "java/lang/IllegalArgumentException" := by
  refine xt_Met.ofW (cc := bN_teeth) (maxL := 11) (ret := (some (.int))) (by decide) rfl ?_
  intro p e s m args below meth c s₁ B hml hex hv
  obtain ⟨rfl, hAt, hP⟩ := hv
  have hx := B.exec
  have hb := B.bytes
  have hr := B.returns
  have hts := xb_hts E hAt ([.ref h0, .int mi, .int x, .int y, .int w, .int h, .int stp] : List Value).toArray
  have hown : s.vm.findClass "NailRules" = some m.cls := findClass_of_methodNamed B.named
  have hlocks := B.notSynchronized
  have hK := xb_K E hAt
  have hl := lv_entry ([.ref h0, .int mi, .int x, .int y, .int w, .int h, .int stp]) (n := 11) (Nat.le_of_ble_eq_true rfl)
  rw [lg_entry_eq]
  generalize (lg_sl ([.ref h0, .int mi, .int x, .int y, .int w, .int h, .int stp]) ++ List.replicate (11 - (lg_sl ([.ref h0, .int mi, .int x, .int y, .int w, .int h, .int stp])).length) Slot.unset).toArray = ls at hl ⊢
  have hl : lv_has ls 11 [(0, .ref h0), (1, .int mi), (2, .int x), (3, .int y), (4, .int w), (5, .int h), (6, .int stp)] := hl
  refine lv_iload_n hx hb dN_teeth_0 rfl (lv_at hl 1 rfl) ?_
  refine lv_aload_n hx hb dN_teeth_1 rfl (lv_at hl 0 rfl) ?_
  refine va_get (D := (dC, dI)) (ci := 0) (v := .ref ml) (C := xR_N) (T := xF_N) (N := 11) hx hb hts xi_N hown hK hP 0 rfl rfl 10 (by decide) (hts _ xk_124) (fun _ h9 => h9) hf10 dN_teeth_2 ?_
  refine xb_rd (W.runV (C := "java/util/ArrayList") (As := []) (rest := [.int mi]) ⟨hx, hb, hml, hown, hts⟩ (cA_size l E ml gs sn hg1) (cwV 0 hts (xb_gi (List.forall_mem_cons.mpr ⟨xk_513, List.forall_mem_cons.mpr ⟨xk_514, List.forall_mem_cons.mpr ⟨xk_515, List.forall_mem_cons.mpr ⟨xk_44, List.forall_mem_cons.mpr ⟨xk_516, fun _ h => absurd h List.not_mem_nil⟩⟩⟩⟩⟩)) rfl rfl rfl (by decide +kernel) ⟨Nat.le_of_ble_eq_true rfl, Nat.le_of_ble_eq_true rfl⟩) ⟨fun _ _ _ _ q => q, va_recv hK hP (ci := 4) (q0 := 1) rfl rfl, fun U hU hW => ⟨rfl, xb_at0 hAt hU hW, by rw [hU]; exact hP.sub (ws' := [(ml, .inr (4, gs))]) [1] rfl⟩⟩ rfl rfl hl.1 rfl (lv_room (Nat.le_of_ble_eq_true rfl)) dN_teeth_5 ⟨Nat.zero_le _, Nat.zero_le _⟩) ?_
  refine xb_rd (W.runS (As := [.int mi, .int (fA_size sn)]) (rest := []) ⟨hx, hb, hml, hown, hts⟩ (cN_requireIndex l E mi (fA_size sn) (ka) (kb)) (cwS 2 hts (xb_gi (List.forall_mem_cons.mpr ⟨xk_288, List.forall_mem_cons.mpr ⟨xk_289, List.forall_mem_cons.mpr ⟨xk_40, List.forall_mem_cons.mpr ⟨xk_290, fun _ h => absurd h List.not_mem_nil⟩⟩⟩⟩)) rfl rfl rfl (by decide +kernel) ⟨Nat.le_of_ble_eq_true rfl, Nat.le_of_ble_eq_true rfl⟩) ⟨fun _ _ _ _ q => q, fun U hU hW => ⟨rfl, xb_at0 hAt hU hW, fun k q h => by simp at h⟩⟩ rfl rfl hl.1 rfl (lv_room (Nat.le_of_ble_eq_true rfl)) dN_teeth_8 ⟨Nat.zero_le _, Nat.zero_le _⟩) ?_
  refine lv_iload_n hx hb dN_teeth_11 rfl (lv_at hl 2 rfl) ?_
  refine lv_i2l hx hb dN_teeth_12 rfl ?_
  refine lv_ldc2 (v := (-10000)) hx hb hown (hts _ xk_510) dN_teeth_13 ?_
  refine lv_ldc2 (v := 10000) hx hb hown (hts _ xk_511) dN_teeth_16 ?_
  refine xb_rd (W.runS (As := [.long x.toInt64, .long (-10000), .long 10000]) (rest := []) ⟨hx, hb, hml, hown, hts⟩ (cN_requireWithin l E x.toInt64 (-10000) 10000 (ua) (ub)) (cwS 3 hts (xb_gi (List.forall_mem_cons.mpr ⟨xk_371, List.forall_mem_cons.mpr ⟨xk_372, List.forall_mem_cons.mpr ⟨xk_40, List.forall_mem_cons.mpr ⟨xk_373, fun _ h => absurd h List.not_mem_nil⟩⟩⟩⟩)) rfl rfl rfl (by decide +kernel) ⟨Nat.le_of_ble_eq_true rfl, Nat.le_of_ble_eq_true rfl⟩) ⟨fun _ _ _ _ q => q, fun U hU hW => ⟨rfl, xb_at0 hAt hU hW, fun k q h => by simp at h⟩⟩ rfl rfl hl.1 rfl (lv_room (Nat.le_of_ble_eq_true rfl)) dN_teeth_19 ⟨Nat.zero_le _, Nat.zero_le _⟩) ?_
  refine lv_iload_n hx hb dN_teeth_22 rfl (lv_at hl 3 rfl) ?_
  refine lv_i2l hx hb dN_teeth_23 rfl ?_
  refine lv_ldc2 (v := (-10000)) hx hb hown (hts _ xk_510) dN_teeth_24 ?_
  refine lv_ldc2 (v := 10000) hx hb hown (hts _ xk_511) dN_teeth_27 ?_
  refine xb_rd (W.runS (As := [.long y.toInt64, .long (-10000), .long 10000]) (rest := []) ⟨hx, hb, hml, hown, hts⟩ (cN_requireWithin l E y.toInt64 (-10000) 10000 (wa) (wb)) (cwS 3 hts (xb_gi (List.forall_mem_cons.mpr ⟨xk_371, List.forall_mem_cons.mpr ⟨xk_372, List.forall_mem_cons.mpr ⟨xk_40, List.forall_mem_cons.mpr ⟨xk_373, fun _ h => absurd h List.not_mem_nil⟩⟩⟩⟩)) rfl rfl rfl (by decide +kernel) ⟨Nat.le_of_ble_eq_true rfl, Nat.le_of_ble_eq_true rfl⟩) ⟨fun _ _ _ _ q => q, fun U hU hW => ⟨rfl, xb_at0 hAt hU hW, fun k q h => by simp at h⟩⟩ rfl rfl hl.1 rfl (lv_room (Nat.le_of_ble_eq_true rfl)) dN_teeth_30 ⟨Nat.zero_le _, Nat.zero_le _⟩) ?_
  refine lv_iload hx hb dN_teeth_33 (lv_at hl 4 rfl) ?_
  refine lv_i2l hx hb dN_teeth_35 rfl ?_
  refine lv_lconst (v := 0) hx hb dN_teeth_36 (by decide) ?_
  refine lv_ldc2 (v := 1000) hx hb hown (hts _ xk_397) dN_teeth_37 ?_
  exact xt_pass hlocks hex (xt_runS (As := [.long w.toInt64, .long 0, .long 1000]) (rest := []) ⟨hx, hb, hml, hown, hts⟩ (cN_requireWithin_x l E w.toInt64 0 1000 (hb9)) (cwS 3 hts (xb_gi (List.forall_mem_cons.mpr ⟨xk_371, List.forall_mem_cons.mpr ⟨xk_372, List.forall_mem_cons.mpr ⟨xk_40, List.forall_mem_cons.mpr ⟨xk_373, fun _ h => absurd h List.not_mem_nil⟩⟩⟩⟩)) rfl rfl rfl (by decide +kernel) ⟨Nat.le_of_ble_eq_true rfl, Nat.le_of_ble_eq_true rfl⟩) ⟨fun _ _ _ _ q => q, fun U hU hW => ⟨rfl, xb_at0 hAt hU hW, fun k q h => by simp at h⟩⟩ rfl rfl hl.1 rfl (lv_room (Nat.le_of_ble_eq_true rfl)) dN_teeth_40 ⟨Nat.le_of_ble_eq_true rfl, Nat.le_of_ble_eq_true rfl⟩)

set_option maxHeartbeats 4000000 in
set_option maxRecDepth 100000 in
theorem cN_teeth_x5 (l : Launch) {s0 : State} {dC : Nat → ClassId} {dI : Nat → Nat → Nat} {cI cC cL cO : ClassId} (E : xb_Env l s0 dC dI (xtys cI cC cL cO)) (h0 : Nat) (fs : List Value) (ml : Nat) (gs : List Value) (sn : Int32) (mi : Int32) (x : Int32) (y : Int32) (w : Int32) (h : Int32) (stp : Int32) (hf10 : fs[10]? = some (.ref ml)) (hg1 : gs[1]? = some (.int sn)) (ka : ¬ mi < 0) (kb : mi < fA_size sn) (ua : ¬ x.toInt64 < (-10000)) (ub : x.toInt64 ≤ 10000) (wa : ¬ y.toInt64 < (-10000)) (wb : y.toInt64 ≤ 10000) (ga : ¬ w.toInt64 < 0) (gb : w.toInt64 ≤ 1000) (hb9 : h.toInt64 < 0 ∨ ¬ h.toInt64 ≤ 1000) : xt_Met l yN_teeth [.code yN_teeth bN_teeth 11 (some (.int))] ({ frames := 7, cells := 1, slots := 6, locals := 107 }) (va_Pc [.ref h0, .int mi, .int x, .int y, .int w, .int h, .int stp] (fun U => xb_At s0 U ∧ va_P (dC, dI) classes [(h0, .inr (0, fs)), (ml, .inr (4, gs))] U.heap)) "java/lang/IllegalArgumentException" := by
  refine xt_Met.ofW (cc := bN_teeth) (maxL := 11) (ret := (some (.int))) (by decide) rfl ?_
  intro p e s m args below meth c s₁ B hml hex hv
  obtain ⟨rfl, hAt, hP⟩ := hv
  have hx := B.exec
  have hb := B.bytes
  have hr := B.returns
  have hts := xb_hts E hAt ([.ref h0, .int mi, .int x, .int y, .int w, .int h, .int stp] : List Value).toArray
  have hown : s.vm.findClass "NailRules" = some m.cls := findClass_of_methodNamed B.named
  have hlocks := B.notSynchronized
  have hK := xb_K E hAt
  have hl := lv_entry ([.ref h0, .int mi, .int x, .int y, .int w, .int h, .int stp]) (n := 11) (Nat.le_of_ble_eq_true rfl)
  rw [lg_entry_eq]
  generalize (lg_sl ([.ref h0, .int mi, .int x, .int y, .int w, .int h, .int stp]) ++ List.replicate (11 - (lg_sl ([.ref h0, .int mi, .int x, .int y, .int w, .int h, .int stp])).length) Slot.unset).toArray = ls at hl ⊢
  have hl : lv_has ls 11 [(0, .ref h0), (1, .int mi), (2, .int x), (3, .int y), (4, .int w), (5, .int h), (6, .int stp)] := hl
  refine lv_iload_n hx hb dN_teeth_0 rfl (lv_at hl 1 rfl) ?_
  refine lv_aload_n hx hb dN_teeth_1 rfl (lv_at hl 0 rfl) ?_
  refine va_get (D := (dC, dI)) (ci := 0) (v := .ref ml) (C := xR_N) (T := xF_N) (N := 11) hx hb hts xi_N hown hK hP 0 rfl rfl 10 (by decide) (hts _ xk_124) (fun _ h9 => h9) hf10 dN_teeth_2 ?_
  refine xb_rd (W.runV (C := "java/util/ArrayList") (As := []) (rest := [.int mi]) ⟨hx, hb, hml, hown, hts⟩ (cA_size l E ml gs sn hg1) (cwV 0 hts (xb_gi (List.forall_mem_cons.mpr ⟨xk_513, List.forall_mem_cons.mpr ⟨xk_514, List.forall_mem_cons.mpr ⟨xk_515, List.forall_mem_cons.mpr ⟨xk_44, List.forall_mem_cons.mpr ⟨xk_516, fun _ h => absurd h List.not_mem_nil⟩⟩⟩⟩⟩)) rfl rfl rfl (by decide +kernel) ⟨Nat.le_of_ble_eq_true rfl, Nat.le_of_ble_eq_true rfl⟩) ⟨fun _ _ _ _ q => q, va_recv hK hP (ci := 4) (q0 := 1) rfl rfl, fun U hU hW => ⟨rfl, xb_at0 hAt hU hW, by rw [hU]; exact hP.sub (ws' := [(ml, .inr (4, gs))]) [1] rfl⟩⟩ rfl rfl hl.1 rfl (lv_room (Nat.le_of_ble_eq_true rfl)) dN_teeth_5 ⟨Nat.zero_le _, Nat.zero_le _⟩) ?_
  refine xb_rd (W.runS (As := [.int mi, .int (fA_size sn)]) (rest := []) ⟨hx, hb, hml, hown, hts⟩ (cN_requireIndex l E mi (fA_size sn) (ka) (kb)) (cwS 2 hts (xb_gi (List.forall_mem_cons.mpr ⟨xk_288, List.forall_mem_cons.mpr ⟨xk_289, List.forall_mem_cons.mpr ⟨xk_40, List.forall_mem_cons.mpr ⟨xk_290, fun _ h => absurd h List.not_mem_nil⟩⟩⟩⟩)) rfl rfl rfl (by decide +kernel) ⟨Nat.le_of_ble_eq_true rfl, Nat.le_of_ble_eq_true rfl⟩) ⟨fun _ _ _ _ q => q, fun U hU hW => ⟨rfl, xb_at0 hAt hU hW, fun k q h => by simp at h⟩⟩ rfl rfl hl.1 rfl (lv_room (Nat.le_of_ble_eq_true rfl)) dN_teeth_8 ⟨Nat.zero_le _, Nat.zero_le _⟩) ?_
  refine lv_iload_n hx hb dN_teeth_11 rfl (lv_at hl 2 rfl) ?_
  refine lv_i2l hx hb dN_teeth_12 rfl ?_
  refine lv_ldc2 (v := (-10000)) hx hb hown (hts _ xk_510) dN_teeth_13 ?_
  refine lv_ldc2 (v := 10000) hx hb hown (hts _ xk_511) dN_teeth_16 ?_
  refine xb_rd (W.runS (As := [.long x.toInt64, .long (-10000), .long 10000]) (rest := []) ⟨hx, hb, hml, hown, hts⟩ (cN_requireWithin l E x.toInt64 (-10000) 10000 (ua) (ub)) (cwS 3 hts (xb_gi (List.forall_mem_cons.mpr ⟨xk_371, List.forall_mem_cons.mpr ⟨xk_372, List.forall_mem_cons.mpr ⟨xk_40, List.forall_mem_cons.mpr ⟨xk_373, fun _ h => absurd h List.not_mem_nil⟩⟩⟩⟩)) rfl rfl rfl (by decide +kernel) ⟨Nat.le_of_ble_eq_true rfl, Nat.le_of_ble_eq_true rfl⟩) ⟨fun _ _ _ _ q => q, fun U hU hW => ⟨rfl, xb_at0 hAt hU hW, fun k q h => by simp at h⟩⟩ rfl rfl hl.1 rfl (lv_room (Nat.le_of_ble_eq_true rfl)) dN_teeth_19 ⟨Nat.zero_le _, Nat.zero_le _⟩) ?_
  refine lv_iload_n hx hb dN_teeth_22 rfl (lv_at hl 3 rfl) ?_
  refine lv_i2l hx hb dN_teeth_23 rfl ?_
  refine lv_ldc2 (v := (-10000)) hx hb hown (hts _ xk_510) dN_teeth_24 ?_
  refine lv_ldc2 (v := 10000) hx hb hown (hts _ xk_511) dN_teeth_27 ?_
  refine xb_rd (W.runS (As := [.long y.toInt64, .long (-10000), .long 10000]) (rest := []) ⟨hx, hb, hml, hown, hts⟩ (cN_requireWithin l E y.toInt64 (-10000) 10000 (wa) (wb)) (cwS 3 hts (xb_gi (List.forall_mem_cons.mpr ⟨xk_371, List.forall_mem_cons.mpr ⟨xk_372, List.forall_mem_cons.mpr ⟨xk_40, List.forall_mem_cons.mpr ⟨xk_373, fun _ h => absurd h List.not_mem_nil⟩⟩⟩⟩)) rfl rfl rfl (by decide +kernel) ⟨Nat.le_of_ble_eq_true rfl, Nat.le_of_ble_eq_true rfl⟩) ⟨fun _ _ _ _ q => q, fun U hU hW => ⟨rfl, xb_at0 hAt hU hW, fun k q h => by simp at h⟩⟩ rfl rfl hl.1 rfl (lv_room (Nat.le_of_ble_eq_true rfl)) dN_teeth_30 ⟨Nat.zero_le _, Nat.zero_le _⟩) ?_
  refine lv_iload hx hb dN_teeth_33 (lv_at hl 4 rfl) ?_
  refine lv_i2l hx hb dN_teeth_35 rfl ?_
  refine lv_lconst (v := 0) hx hb dN_teeth_36 (by decide) ?_
  refine lv_ldc2 (v := 1000) hx hb hown (hts _ xk_397) dN_teeth_37 ?_
  refine xb_rd (W.runS (As := [.long w.toInt64, .long 0, .long 1000]) (rest := []) ⟨hx, hb, hml, hown, hts⟩ (cN_requireWithin l E w.toInt64 0 1000 (ga) (gb)) (cwS 3 hts (xb_gi (List.forall_mem_cons.mpr ⟨xk_371, List.forall_mem_cons.mpr ⟨xk_372, List.forall_mem_cons.mpr ⟨xk_40, List.forall_mem_cons.mpr ⟨xk_373, fun _ h => absurd h List.not_mem_nil⟩⟩⟩⟩)) rfl rfl rfl (by decide +kernel) ⟨Nat.le_of_ble_eq_true rfl, Nat.le_of_ble_eq_true rfl⟩) ⟨fun _ _ _ _ q => q, fun U hU hW => ⟨rfl, xb_at0 hAt hU hW, fun k q h => by simp at h⟩⟩ rfl rfl hl.1 rfl (lv_room (Nat.le_of_ble_eq_true rfl)) dN_teeth_40 ⟨Nat.zero_le _, Nat.zero_le _⟩) ?_
  refine lv_iload hx hb dN_teeth_43 (lv_at hl 5 rfl) ?_
  refine lv_i2l hx hb dN_teeth_45 rfl ?_
  refine lv_lconst (v := 0) hx hb dN_teeth_46 (by decide) ?_
  refine lv_ldc2 (v := 1000) hx hb hown (hts _ xk_397) dN_teeth_47 ?_
  exact xt_pass hlocks hex (xt_runS (As := [.long h.toInt64, .long 0, .long 1000]) (rest := []) ⟨hx, hb, hml, hown, hts⟩ (cN_requireWithin_x l E h.toInt64 0 1000 (hb9)) (cwS 3 hts (xb_gi (List.forall_mem_cons.mpr ⟨xk_371, List.forall_mem_cons.mpr ⟨xk_372, List.forall_mem_cons.mpr ⟨xk_40, List.forall_mem_cons.mpr ⟨xk_373, fun _ h => absurd h List.not_mem_nil⟩⟩⟩⟩)) rfl rfl rfl (by decide +kernel) ⟨Nat.le_of_ble_eq_true rfl, Nat.le_of_ble_eq_true rfl⟩) ⟨fun _ _ _ _ q => q, fun U hU hW => ⟨rfl, xb_at0 hAt hU hW, fun k q h => by simp at h⟩⟩ rfl rfl hl.1 rfl (lv_room (Nat.le_of_ble_eq_true rfl)) dN_teeth_50 ⟨Nat.le_of_ble_eq_true rfl, Nat.le_of_ble_eq_true rfl⟩)

set_option maxHeartbeats 4000000 in
set_option maxRecDepth 100000 in
theorem cN_teeth_x6 (l : Launch) {s0 : State} {dC : Nat → ClassId} {dI : Nat → Nat → Nat} {cI cC cL cO : ClassId} (E : xb_Env l s0 dC dI (xtys cI cC cL cO)) (h0 : Nat) (fs : List Value) (ml : Nat) (gs : List Value) (sn : Int32) (mi : Int32) (x : Int32) (y : Int32) (w : Int32) (h : Int32) (stp : Int32) (hf10 : fs[10]? = some (.ref ml)) (hg1 : gs[1]? = some (.int sn)) (ka : ¬ mi < 0) (kb : mi < fA_size sn) (ua : ¬ x.toInt64 < (-10000)) (ub : x.toInt64 ≤ 10000) (wa : ¬ y.toInt64 < (-10000)) (wb : y.toInt64 ≤ 10000) (ga : ¬ w.toInt64 < 0) (gb : w.toInt64 ≤ 1000) (qa : ¬ h.toInt64 < 0) (qb : h.toInt64 ≤ 1000) (hb9 : stp.toInt64 < 10 ∨ ¬ stp.toInt64 ≤ 1000) : xt_Met l yN_teeth [.code yN_teeth bN_teeth 11 (some (.int))] ({ frames := 7, cells := 1, slots := 6, locals := 107 }) (va_Pc [.ref h0, .int mi, .int x, .int y, .int w, .int h, .int stp] (fun U => xb_At s0 U ∧ va_P (dC, dI) classes [(h0, .inr (0, fs)), (ml, .inr (4, gs))] U.heap)) "java/lang/IllegalArgumentException" := by
  refine xt_Met.ofW (cc := bN_teeth) (maxL := 11) (ret := (some (.int))) (by decide) rfl ?_
  intro p e s m args below meth c s₁ B hml hex hv
  obtain ⟨rfl, hAt, hP⟩ := hv
  have hx := B.exec
  have hb := B.bytes
  have hr := B.returns
  have hts := xb_hts E hAt ([.ref h0, .int mi, .int x, .int y, .int w, .int h, .int stp] : List Value).toArray
  have hown : s.vm.findClass "NailRules" = some m.cls := findClass_of_methodNamed B.named
  have hlocks := B.notSynchronized
  have hK := xb_K E hAt
  have hl := lv_entry ([.ref h0, .int mi, .int x, .int y, .int w, .int h, .int stp]) (n := 11) (Nat.le_of_ble_eq_true rfl)
  rw [lg_entry_eq]
  generalize (lg_sl ([.ref h0, .int mi, .int x, .int y, .int w, .int h, .int stp]) ++ List.replicate (11 - (lg_sl ([.ref h0, .int mi, .int x, .int y, .int w, .int h, .int stp])).length) Slot.unset).toArray = ls at hl ⊢
  have hl : lv_has ls 11 [(0, .ref h0), (1, .int mi), (2, .int x), (3, .int y), (4, .int w), (5, .int h), (6, .int stp)] := hl
  refine lv_iload_n hx hb dN_teeth_0 rfl (lv_at hl 1 rfl) ?_
  refine lv_aload_n hx hb dN_teeth_1 rfl (lv_at hl 0 rfl) ?_
  refine va_get (D := (dC, dI)) (ci := 0) (v := .ref ml) (C := xR_N) (T := xF_N) (N := 11) hx hb hts xi_N hown hK hP 0 rfl rfl 10 (by decide) (hts _ xk_124) (fun _ h9 => h9) hf10 dN_teeth_2 ?_
  refine xb_rd (W.runV (C := "java/util/ArrayList") (As := []) (rest := [.int mi]) ⟨hx, hb, hml, hown, hts⟩ (cA_size l E ml gs sn hg1) (cwV 0 hts (xb_gi (List.forall_mem_cons.mpr ⟨xk_513, List.forall_mem_cons.mpr ⟨xk_514, List.forall_mem_cons.mpr ⟨xk_515, List.forall_mem_cons.mpr ⟨xk_44, List.forall_mem_cons.mpr ⟨xk_516, fun _ h => absurd h List.not_mem_nil⟩⟩⟩⟩⟩)) rfl rfl rfl (by decide +kernel) ⟨Nat.le_of_ble_eq_true rfl, Nat.le_of_ble_eq_true rfl⟩) ⟨fun _ _ _ _ q => q, va_recv hK hP (ci := 4) (q0 := 1) rfl rfl, fun U hU hW => ⟨rfl, xb_at0 hAt hU hW, by rw [hU]; exact hP.sub (ws' := [(ml, .inr (4, gs))]) [1] rfl⟩⟩ rfl rfl hl.1 rfl (lv_room (Nat.le_of_ble_eq_true rfl)) dN_teeth_5 ⟨Nat.zero_le _, Nat.zero_le _⟩) ?_
  refine xb_rd (W.runS (As := [.int mi, .int (fA_size sn)]) (rest := []) ⟨hx, hb, hml, hown, hts⟩ (cN_requireIndex l E mi (fA_size sn) (ka) (kb)) (cwS 2 hts (xb_gi (List.forall_mem_cons.mpr ⟨xk_288, List.forall_mem_cons.mpr ⟨xk_289, List.forall_mem_cons.mpr ⟨xk_40, List.forall_mem_cons.mpr ⟨xk_290, fun _ h => absurd h List.not_mem_nil⟩⟩⟩⟩)) rfl rfl rfl (by decide +kernel) ⟨Nat.le_of_ble_eq_true rfl, Nat.le_of_ble_eq_true rfl⟩) ⟨fun _ _ _ _ q => q, fun U hU hW => ⟨rfl, xb_at0 hAt hU hW, fun k q h => by simp at h⟩⟩ rfl rfl hl.1 rfl (lv_room (Nat.le_of_ble_eq_true rfl)) dN_teeth_8 ⟨Nat.zero_le _, Nat.zero_le _⟩) ?_
  refine lv_iload_n hx hb dN_teeth_11 rfl (lv_at hl 2 rfl) ?_
  refine lv_i2l hx hb dN_teeth_12 rfl ?_
  refine lv_ldc2 (v := (-10000)) hx hb hown (hts _ xk_510) dN_teeth_13 ?_
  refine lv_ldc2 (v := 10000) hx hb hown (hts _ xk_511) dN_teeth_16 ?_
  refine xb_rd (W.runS (As := [.long x.toInt64, .long (-10000), .long 10000]) (rest := []) ⟨hx, hb, hml, hown, hts⟩ (cN_requireWithin l E x.toInt64 (-10000) 10000 (ua) (ub)) (cwS 3 hts (xb_gi (List.forall_mem_cons.mpr ⟨xk_371, List.forall_mem_cons.mpr ⟨xk_372, List.forall_mem_cons.mpr ⟨xk_40, List.forall_mem_cons.mpr ⟨xk_373, fun _ h => absurd h List.not_mem_nil⟩⟩⟩⟩)) rfl rfl rfl (by decide +kernel) ⟨Nat.le_of_ble_eq_true rfl, Nat.le_of_ble_eq_true rfl⟩) ⟨fun _ _ _ _ q => q, fun U hU hW => ⟨rfl, xb_at0 hAt hU hW, fun k q h => by simp at h⟩⟩ rfl rfl hl.1 rfl (lv_room (Nat.le_of_ble_eq_true rfl)) dN_teeth_19 ⟨Nat.zero_le _, Nat.zero_le _⟩) ?_
  refine lv_iload_n hx hb dN_teeth_22 rfl (lv_at hl 3 rfl) ?_
  refine lv_i2l hx hb dN_teeth_23 rfl ?_
  refine lv_ldc2 (v := (-10000)) hx hb hown (hts _ xk_510) dN_teeth_24 ?_
  refine lv_ldc2 (v := 10000) hx hb hown (hts _ xk_511) dN_teeth_27 ?_
  refine xb_rd (W.runS (As := [.long y.toInt64, .long (-10000), .long 10000]) (rest := []) ⟨hx, hb, hml, hown, hts⟩ (cN_requireWithin l E y.toInt64 (-10000) 10000 (wa) (wb)) (cwS 3 hts (xb_gi (List.forall_mem_cons.mpr ⟨xk_371, List.forall_mem_cons.mpr ⟨xk_372, List.forall_mem_cons.mpr ⟨xk_40, List.forall_mem_cons.mpr ⟨xk_373, fun _ h => absurd h List.not_mem_nil⟩⟩⟩⟩)) rfl rfl rfl (by decide +kernel) ⟨Nat.le_of_ble_eq_true rfl, Nat.le_of_ble_eq_true rfl⟩) ⟨fun _ _ _ _ q => q, fun U hU hW => ⟨rfl, xb_at0 hAt hU hW, fun k q h => by simp at h⟩⟩ rfl rfl hl.1 rfl (lv_room (Nat.le_of_ble_eq_true rfl)) dN_teeth_30 ⟨Nat.zero_le _, Nat.zero_le _⟩) ?_
  refine lv_iload hx hb dN_teeth_33 (lv_at hl 4 rfl) ?_
  refine lv_i2l hx hb dN_teeth_35 rfl ?_
  refine lv_lconst (v := 0) hx hb dN_teeth_36 (by decide) ?_
  refine lv_ldc2 (v := 1000) hx hb hown (hts _ xk_397) dN_teeth_37 ?_
  refine xb_rd (W.runS (As := [.long w.toInt64, .long 0, .long 1000]) (rest := []) ⟨hx, hb, hml, hown, hts⟩ (cN_requireWithin l E w.toInt64 0 1000 (ga) (gb)) (cwS 3 hts (xb_gi (List.forall_mem_cons.mpr ⟨xk_371, List.forall_mem_cons.mpr ⟨xk_372, List.forall_mem_cons.mpr ⟨xk_40, List.forall_mem_cons.mpr ⟨xk_373, fun _ h => absurd h List.not_mem_nil⟩⟩⟩⟩)) rfl rfl rfl (by decide +kernel) ⟨Nat.le_of_ble_eq_true rfl, Nat.le_of_ble_eq_true rfl⟩) ⟨fun _ _ _ _ q => q, fun U hU hW => ⟨rfl, xb_at0 hAt hU hW, fun k q h => by simp at h⟩⟩ rfl rfl hl.1 rfl (lv_room (Nat.le_of_ble_eq_true rfl)) dN_teeth_40 ⟨Nat.zero_le _, Nat.zero_le _⟩) ?_
  refine lv_iload hx hb dN_teeth_43 (lv_at hl 5 rfl) ?_
  refine lv_i2l hx hb dN_teeth_45 rfl ?_
  refine lv_lconst (v := 0) hx hb dN_teeth_46 (by decide) ?_
  refine lv_ldc2 (v := 1000) hx hb hown (hts _ xk_397) dN_teeth_47 ?_
  refine xb_rd (W.runS (As := [.long h.toInt64, .long 0, .long 1000]) (rest := []) ⟨hx, hb, hml, hown, hts⟩ (cN_requireWithin l E h.toInt64 0 1000 (qa) (qb)) (cwS 3 hts (xb_gi (List.forall_mem_cons.mpr ⟨xk_371, List.forall_mem_cons.mpr ⟨xk_372, List.forall_mem_cons.mpr ⟨xk_40, List.forall_mem_cons.mpr ⟨xk_373, fun _ h => absurd h List.not_mem_nil⟩⟩⟩⟩)) rfl rfl rfl (by decide +kernel) ⟨Nat.le_of_ble_eq_true rfl, Nat.le_of_ble_eq_true rfl⟩) ⟨fun _ _ _ _ q => q, fun U hU hW => ⟨rfl, xb_at0 hAt hU hW, fun k q h => by simp at h⟩⟩ rfl rfl hl.1 rfl (lv_room (Nat.le_of_ble_eq_true rfl)) dN_teeth_50 ⟨Nat.zero_le _, Nat.zero_le _⟩) ?_
  refine lv_iload hx hb dN_teeth_53 (lv_at hl 6 rfl) ?_
  refine lv_i2l hx hb dN_teeth_55 rfl ?_
  refine lv_ldc2 (v := 10) hx hb hown (hts _ xk_622) dN_teeth_56 ?_
  refine lv_ldc2 (v := 1000) hx hb hown (hts _ xk_397) dN_teeth_59 ?_
  exact xt_pass hlocks hex (xt_runS (As := [.long stp.toInt64, .long 10, .long 1000]) (rest := []) ⟨hx, hb, hml, hown, hts⟩ (cN_requireWithin_x l E stp.toInt64 10 1000 (hb9)) (cwS 3 hts (xb_gi (List.forall_mem_cons.mpr ⟨xk_371, List.forall_mem_cons.mpr ⟨xk_372, List.forall_mem_cons.mpr ⟨xk_40, List.forall_mem_cons.mpr ⟨xk_373, fun _ h => absurd h List.not_mem_nil⟩⟩⟩⟩)) rfl rfl rfl (by decide +kernel) ⟨Nat.le_of_ble_eq_true rfl, Nat.le_of_ble_eq_true rfl⟩) ⟨fun _ _ _ _ q => q, fun U hU hW => ⟨rfl, xb_at0 hAt hU hW, fun k q h => by simp at h⟩⟩ rfl rfl hl.1 rfl (lv_room (Nat.le_of_ble_eq_true rfl)) dN_teeth_62 ⟨Nat.le_of_ble_eq_true rfl, Nat.le_of_ble_eq_true rfl⟩)

def kN_teeth_94a (m0 : Int64) (m1 : Int64) (m2 : Int64) (m3 : Int64) (m4 : Int64) (x : Int32) (y : Int32) (w : Int32) (h : Int32) (stp : Int32) (nn : Int32) (wi8 : Int32) (K_84 : (Int32 → Int32 → Int32)) : Nat → Int32 → Int32 → Int32
  | 0, _, _ => default
  | n_94 + 1, n2, wj => if h < wj then (K_84 n2 (wi8 + stp)) else (if (fM_grips m0 m1 m2 m3 m4 (x + wi8) (y + wj)) = true then (kN_teeth_94a m0 m1 m2 m3 m4 x y w h stp nn wi8 K_84 n_94 (n2 + 1) (wj + stp)) else (kN_teeth_94a m0 m1 m2 m3 m4 x y w h stp nn wi8 K_84 n_94 n2 (wj + stp)))
def kN_teeth_84a (m0 : Int64) (m1 : Int64) (m2 : Int64) (m3 : Int64) (m4 : Int64) (x : Int32) (y : Int32) (w : Int32) (h : Int32) (stp : Int32) : Nat → Int32 → Int32 → Int32
  | 0, _, _ => default
  | n_84 + 1, nn, wi8 => if w < wi8 then (nn) else (kN_teeth_94a m0 m1 m2 m3 m4 x y w h stp nn wi8 (fun nn wi8 => kN_teeth_84a m0 m1 m2 m3 m4 x y w h stp n_84 nn wi8) 201 nn (0))
def fN_teeth (m0 : Int64) (m1 : Int64) (m2 : Int64) (m3 : Int64) (m4 : Int64) (x : Int32) (y : Int32) (w : Int32) (h : Int32) (stp : Int32) : Int32 := kN_teeth_84a m0 m1 m2 m3 m4 x y w h stp 201 (0) (0)
set_option maxHeartbeats 4000000 in
set_option maxRecDepth 100000 in
theorem cN_teeth (l : Launch) {s0 : State} {dC : Nat → ClassId} {dI : Nat → Nat → Nat} {cI cC cL cO : ClassId} (E : xb_Env l s0 dC dI (xtys cI cC cL cO)) (h0 : Nat) (fs : List Value) (ml : Nat) (gs : List Value) (ea : Nat) (ef : Nat → Option Nat) (qm : Nat) (ms : List Value) (sn : Int32) (m0 : Int64) (m1 : Int64) (m2 : Int64) (m3 : Int64) (m4 : Int64) (mi : Int32) (x : Int32) (y : Int32) (w : Int32) (h : Int32) (stp : Int32) (hf10 : fs[10]? = some (.ref ml)) (hg0 : gs[0]? = some (.ref ea)) (hg1 : gs[1]? = some (.int sn)) (hm0 : ms[0]? = some (.long m0)) (hm1 : ms[1]? = some (.long m1)) (hm2 : ms[2]? = some (.long m2)) (hm3 : ms[3]? = some (.long m3)) (hm4 : ms[4]? = some (.long m4)) (ka : ¬ mi < 0) (kb : mi < fA_size sn) (ua : ¬ x.toInt64 < (-10000)) (ub : x.toInt64 ≤ 10000) (wa : ¬ y.toInt64 < (-10000)) (wb : y.toInt64 ≤ 10000) (ga : ¬ w.toInt64 < 0) (gb : w.toInt64 ≤ 1000) (qa : ¬ h.toInt64 < 0) (qb : h.toInt64 ≤ 1000) (va : ¬ stp.toInt64 < 10) (vb : stp.toInt64 ≤ 1000) (hi : vp_in mi 10) (hq : ef mi.toNatClampNeg = some qm) : Met l yN_teeth [.code yN_teeth bN_teeth 11 (some (.int))] ({ frames := 3, cells := 0, slots := 0, locals := 64 }) (va_Pc [.ref h0, .int mi, .int x, .int y, .int w, .int h, .int stp] (fun U => xb_At s0 U ∧ va_P (dC, dI) classes [(h0, .inr (0, fs)), (ml, .inr (4, gs)), (ea, .inl (cO, 10, .inr (.inr (.inr (.inr ef))))), (qm, .inr (2, ms))] U.heap)) (xb_R (some (.int (fN_teeth m0 m1 m2 m3 m4 x y w h stp)))) 0 0 (fun _ => False) := by
  refine Met.ofW (cc := bN_teeth) (maxL := 11) (ret := (some (.int))) (by decide) rfl ?_
  intro p e s m args below meth c s₁ B hml hv
  obtain ⟨rfl, hAt, hP⟩ := hv
  have hx := B.exec
  have hb := B.bytes
  have hr := B.returns
  have hts := xb_hts E hAt ([.ref h0, .int mi, .int x, .int y, .int w, .int h, .int stp] : List Value).toArray
  have hown : s.vm.findClass "NailRules" = some m.cls := findClass_of_methodNamed B.named
  have hlocks := B.notSynchronized
  have hK := xb_K E hAt
  have hl := lv_entry ([.ref h0, .int mi, .int x, .int y, .int w, .int h, .int stp]) (n := 11) (Nat.le_of_ble_eq_true rfl)
  rw [lg_entry_eq]
  generalize (lg_sl ([.ref h0, .int mi, .int x, .int y, .int w, .int h, .int stp]) ++ List.replicate (11 - (lg_sl ([.ref h0, .int mi, .int x, .int y, .int w, .int h, .int stp])).length) Slot.unset).toArray = ls at hl ⊢
  have hl : lv_has ls 11 [(0, .ref h0), (1, .int mi), (2, .int x), (3, .int y), (4, .int w), (5, .int h), (6, .int stp)] := hl
  refine lv_iload_n hx hb dN_teeth_0 rfl (lv_at hl 1 rfl) ?_
  refine lv_aload_n hx hb dN_teeth_1 rfl (lv_at hl 0 rfl) ?_
  refine va_get (D := (dC, dI)) (ci := 0) (v := .ref ml) (C := xR_N) (T := xF_N) (N := 11) hx hb hts xi_N hown hK hP 0 rfl rfl 10 (by decide) (hts _ xk_124) (fun _ h9 => h9) hf10 dN_teeth_2 ?_
  refine xb_rd (W.runV (C := "java/util/ArrayList") (As := []) (rest := [.int mi]) ⟨hx, hb, hml, hown, hts⟩ (cA_size l E ml gs sn hg1) (cwV 0 hts (xb_gi (List.forall_mem_cons.mpr ⟨xk_513, List.forall_mem_cons.mpr ⟨xk_514, List.forall_mem_cons.mpr ⟨xk_515, List.forall_mem_cons.mpr ⟨xk_44, List.forall_mem_cons.mpr ⟨xk_516, fun _ h => absurd h List.not_mem_nil⟩⟩⟩⟩⟩)) rfl rfl rfl (by decide +kernel) ⟨Nat.le_of_ble_eq_true rfl, Nat.le_of_ble_eq_true rfl⟩) ⟨fun _ _ _ _ q => q, va_recv hK hP (ci := 4) (q0 := 1) rfl rfl, fun U hU hW => ⟨rfl, xb_at0 hAt hU hW, by rw [hU]; exact hP.sub (ws' := [(ml, .inr (4, gs))]) [1] rfl⟩⟩ rfl rfl hl.1 rfl (lv_room (Nat.le_of_ble_eq_true rfl)) dN_teeth_5 ⟨Nat.zero_le _, Nat.zero_le _⟩) ?_
  refine xb_rd (W.runS (As := [.int mi, .int (fA_size sn)]) (rest := []) ⟨hx, hb, hml, hown, hts⟩ (cN_requireIndex l E mi (fA_size sn) (ka) (kb)) (cwS 2 hts (xb_gi (List.forall_mem_cons.mpr ⟨xk_288, List.forall_mem_cons.mpr ⟨xk_289, List.forall_mem_cons.mpr ⟨xk_40, List.forall_mem_cons.mpr ⟨xk_290, fun _ h => absurd h List.not_mem_nil⟩⟩⟩⟩)) rfl rfl rfl (by decide +kernel) ⟨Nat.le_of_ble_eq_true rfl, Nat.le_of_ble_eq_true rfl⟩) ⟨fun _ _ _ _ q => q, fun U hU hW => ⟨rfl, xb_at0 hAt hU hW, fun k q h => by simp at h⟩⟩ rfl rfl hl.1 rfl (lv_room (Nat.le_of_ble_eq_true rfl)) dN_teeth_8 ⟨Nat.zero_le _, Nat.zero_le _⟩) ?_
  refine lv_iload_n hx hb dN_teeth_11 rfl (lv_at hl 2 rfl) ?_
  refine lv_i2l hx hb dN_teeth_12 rfl ?_
  refine lv_ldc2 (v := (-10000)) hx hb hown (hts _ xk_510) dN_teeth_13 ?_
  refine lv_ldc2 (v := 10000) hx hb hown (hts _ xk_511) dN_teeth_16 ?_
  refine xb_rd (W.runS (As := [.long x.toInt64, .long (-10000), .long 10000]) (rest := []) ⟨hx, hb, hml, hown, hts⟩ (cN_requireWithin l E x.toInt64 (-10000) 10000 (ua) (ub)) (cwS 3 hts (xb_gi (List.forall_mem_cons.mpr ⟨xk_371, List.forall_mem_cons.mpr ⟨xk_372, List.forall_mem_cons.mpr ⟨xk_40, List.forall_mem_cons.mpr ⟨xk_373, fun _ h => absurd h List.not_mem_nil⟩⟩⟩⟩)) rfl rfl rfl (by decide +kernel) ⟨Nat.le_of_ble_eq_true rfl, Nat.le_of_ble_eq_true rfl⟩) ⟨fun _ _ _ _ q => q, fun U hU hW => ⟨rfl, xb_at0 hAt hU hW, fun k q h => by simp at h⟩⟩ rfl rfl hl.1 rfl (lv_room (Nat.le_of_ble_eq_true rfl)) dN_teeth_19 ⟨Nat.zero_le _, Nat.zero_le _⟩) ?_
  refine lv_iload_n hx hb dN_teeth_22 rfl (lv_at hl 3 rfl) ?_
  refine lv_i2l hx hb dN_teeth_23 rfl ?_
  refine lv_ldc2 (v := (-10000)) hx hb hown (hts _ xk_510) dN_teeth_24 ?_
  refine lv_ldc2 (v := 10000) hx hb hown (hts _ xk_511) dN_teeth_27 ?_
  refine xb_rd (W.runS (As := [.long y.toInt64, .long (-10000), .long 10000]) (rest := []) ⟨hx, hb, hml, hown, hts⟩ (cN_requireWithin l E y.toInt64 (-10000) 10000 (wa) (wb)) (cwS 3 hts (xb_gi (List.forall_mem_cons.mpr ⟨xk_371, List.forall_mem_cons.mpr ⟨xk_372, List.forall_mem_cons.mpr ⟨xk_40, List.forall_mem_cons.mpr ⟨xk_373, fun _ h => absurd h List.not_mem_nil⟩⟩⟩⟩)) rfl rfl rfl (by decide +kernel) ⟨Nat.le_of_ble_eq_true rfl, Nat.le_of_ble_eq_true rfl⟩) ⟨fun _ _ _ _ q => q, fun U hU hW => ⟨rfl, xb_at0 hAt hU hW, fun k q h => by simp at h⟩⟩ rfl rfl hl.1 rfl (lv_room (Nat.le_of_ble_eq_true rfl)) dN_teeth_30 ⟨Nat.zero_le _, Nat.zero_le _⟩) ?_
  refine lv_iload hx hb dN_teeth_33 (lv_at hl 4 rfl) ?_
  refine lv_i2l hx hb dN_teeth_35 rfl ?_
  refine lv_lconst (v := 0) hx hb dN_teeth_36 (by decide) ?_
  refine lv_ldc2 (v := 1000) hx hb hown (hts _ xk_397) dN_teeth_37 ?_
  refine xb_rd (W.runS (As := [.long w.toInt64, .long 0, .long 1000]) (rest := []) ⟨hx, hb, hml, hown, hts⟩ (cN_requireWithin l E w.toInt64 0 1000 (ga) (gb)) (cwS 3 hts (xb_gi (List.forall_mem_cons.mpr ⟨xk_371, List.forall_mem_cons.mpr ⟨xk_372, List.forall_mem_cons.mpr ⟨xk_40, List.forall_mem_cons.mpr ⟨xk_373, fun _ h => absurd h List.not_mem_nil⟩⟩⟩⟩)) rfl rfl rfl (by decide +kernel) ⟨Nat.le_of_ble_eq_true rfl, Nat.le_of_ble_eq_true rfl⟩) ⟨fun _ _ _ _ q => q, fun U hU hW => ⟨rfl, xb_at0 hAt hU hW, fun k q h => by simp at h⟩⟩ rfl rfl hl.1 rfl (lv_room (Nat.le_of_ble_eq_true rfl)) dN_teeth_40 ⟨Nat.zero_le _, Nat.zero_le _⟩) ?_
  refine lv_iload hx hb dN_teeth_43 (lv_at hl 5 rfl) ?_
  refine lv_i2l hx hb dN_teeth_45 rfl ?_
  refine lv_lconst (v := 0) hx hb dN_teeth_46 (by decide) ?_
  refine lv_ldc2 (v := 1000) hx hb hown (hts _ xk_397) dN_teeth_47 ?_
  refine xb_rd (W.runS (As := [.long h.toInt64, .long 0, .long 1000]) (rest := []) ⟨hx, hb, hml, hown, hts⟩ (cN_requireWithin l E h.toInt64 0 1000 (qa) (qb)) (cwS 3 hts (xb_gi (List.forall_mem_cons.mpr ⟨xk_371, List.forall_mem_cons.mpr ⟨xk_372, List.forall_mem_cons.mpr ⟨xk_40, List.forall_mem_cons.mpr ⟨xk_373, fun _ h => absurd h List.not_mem_nil⟩⟩⟩⟩)) rfl rfl rfl (by decide +kernel) ⟨Nat.le_of_ble_eq_true rfl, Nat.le_of_ble_eq_true rfl⟩) ⟨fun _ _ _ _ q => q, fun U hU hW => ⟨rfl, xb_at0 hAt hU hW, fun k q h => by simp at h⟩⟩ rfl rfl hl.1 rfl (lv_room (Nat.le_of_ble_eq_true rfl)) dN_teeth_50 ⟨Nat.zero_le _, Nat.zero_le _⟩) ?_
  refine lv_iload hx hb dN_teeth_53 (lv_at hl 6 rfl) ?_
  refine lv_i2l hx hb dN_teeth_55 rfl ?_
  refine lv_ldc2 (v := 10) hx hb hown (hts _ xk_622) dN_teeth_56 ?_
  refine lv_ldc2 (v := 1000) hx hb hown (hts _ xk_397) dN_teeth_59 ?_
  refine xb_rd (W.runS (As := [.long stp.toInt64, .long 10, .long 1000]) (rest := []) ⟨hx, hb, hml, hown, hts⟩ (cN_requireWithin l E stp.toInt64 10 1000 (va) (vb)) (cwS 3 hts (xb_gi (List.forall_mem_cons.mpr ⟨xk_371, List.forall_mem_cons.mpr ⟨xk_372, List.forall_mem_cons.mpr ⟨xk_40, List.forall_mem_cons.mpr ⟨xk_373, fun _ h => absurd h List.not_mem_nil⟩⟩⟩⟩)) rfl rfl rfl (by decide +kernel) ⟨Nat.le_of_ble_eq_true rfl, Nat.le_of_ble_eq_true rfl⟩) ⟨fun _ _ _ _ q => q, fun U hU hW => ⟨rfl, xb_at0 hAt hU hW, fun k q h => by simp at h⟩⟩ rfl rfl hl.1 rfl (lv_room (Nat.le_of_ble_eq_true rfl)) dN_teeth_62 ⟨Nat.zero_le _, Nat.zero_le _⟩) ?_
  refine lv_aload_n hx hb dN_teeth_65 rfl (lv_at hl 0 rfl) ?_
  refine va_get (D := (dC, dI)) (ci := 0) (v := .ref ml) (C := xR_N) (T := xF_N) (N := 11) hx hb hts xi_N hown hK hP 0 rfl rfl 10 (by decide) (hts _ xk_124) (fun _ h9 => h9) hf10 dN_teeth_66 ?_
  refine lv_iload_n hx hb dN_teeth_69 rfl (lv_at hl 1 rfl) ?_
  refine xb_rd (W.runV (C := "java/util/ArrayList") (As := [.int mi]) (rest := []) ⟨hx, hb, hml, hown, hts⟩ (cA_get l E ml gs ea ef sn mi hg0 hg1 (ka) (kb) (hi) (hq)) (cwV 1 hts (xb_gi (List.forall_mem_cons.mpr ⟨xk_598, List.forall_mem_cons.mpr ⟨xk_599, List.forall_mem_cons.mpr ⟨xk_600, List.forall_mem_cons.mpr ⟨xk_44, List.forall_mem_cons.mpr ⟨xk_601, fun _ h => absurd h List.not_mem_nil⟩⟩⟩⟩⟩)) rfl rfl rfl (by decide +kernel) ⟨Nat.le_of_ble_eq_true rfl, Nat.le_of_ble_eq_true rfl⟩) ⟨fun _ _ _ _ q => q, va_recv hK hP (ci := 4) (q0 := 1) rfl rfl, fun U hU hW => ⟨rfl, xb_at0 hAt hU hW, by rw [hU]; exact hP.sub (ws' := [(ml, .inr (4, gs)), (ea, .inl (cO, 10, .inr (.inr (.inr (.inr ef)))))]) [1, 2] rfl⟩⟩ rfl rfl hl.1 rfl (lv_room (Nat.le_of_ble_eq_true rfl)) dN_teeth_70 ⟨Nat.zero_le _, Nat.zero_le _⟩) ?_
  refine va_castE hx hb hown (hts _ xk_518) (va_recv hK hP (ci := 2) (q0 := 3) rfl rfl) dN_teeth_73 ?_
  refine lv_astore (lv' := [(7, .ref qm), (0, .ref h0), (1, .int mi), (2, .int x), (3, .int y), (4, .int w), (5, .int h), (6, .int stp)]) hx hb dN_teeth_76 hl (by decide) rfl (fun ls hl => ?_)
  refine lv_iconst (v := 0) hx hb dN_teeth_78 (by decide) ?_
  refine lv_istore (lv' := [(8, .int 0), (7, .ref qm), (0, .ref h0), (1, .int mi), (2, .int x), (3, .int y), (4, .int w), (5, .int h), (6, .int stp)]) hx hb dN_teeth_79 hl (by decide) rfl (fun ls hl => ?_)
  refine lv_iconst (v := 0) hx hb dN_teeth_81 (by decide) ?_
  refine lv_istore (lv' := [(9, .int 0), (8, .int 0), (7, .ref qm), (0, .ref h0), (1, .int mi), (2, .int x), (3, .int y), (4, .int w), (5, .int h), (6, .int stp)]) hx hb dN_teeth_82 hl (by decide) rfl (fun ls hl => ?_)
  have lp_84 : ∀ (n_84 : Nat) (nn : Int32) (wi8 : Int32), (xl_t n_84 wi8) → fN_teeth m0 m1 m2 m3 m4 x y w h stp = kN_teeth_84a m0 m1 m2 m3 m4 x y w h stp n_84 nn wi8 → ∀ ls : Array Slot, lv_has ls 11 [(8, .int nn), (9, .int wi8), (7, .ref qm), (0, .ref h0), (1, .int mi), (2, .int x), (3, .int y), (4, .int w), (5, .int h), (6, .int stp)] → W p l e (headSpec [.code yN_teeth bN_teeth 11 (some (.int))] ({ frames := 3, cells := 0, slots := 0, locals := 64 })).room s m ([.ref h0, .int mi, .int x, .int y, .int w, .int h, .int stp] : List Value).toArray below meth c s.heap [] 0 0 (MQ below (xb_R (some (.int (fN_teeth m0 m1 m2 m3 m4 x y w h stp)))) ([.ref h0, .int mi, .int x, .int y, .int w, .int h, .int stp] : List Value).toArray s 0 0 (fun _ => False)) (F0 m 84 ls []) := by
    intro n_84
    induction n_84 with
    | zero =>
      intro nn wi8 hinv_84
      exact xl_t0 hinv_84
    | succ n_84 ih_84 =>
      intro nn wi8 hinv_84 hres_84 ls hl
      refine lv_iload hx hb dN_teeth_84 (lv_at hl 1 rfl) ?_
      refine lv_iload hx hb dN_teeth_86 (lv_at hl 7 rfl) ?_
      refine lv_icmp_gt (tgt := 140) hx hb dN_teeth_88 (by decide) (fun c_1 => ?_) (fun c_1 => ?_)
      · refine lv_iload hx hb dN_teeth_140 (lv_at hl 0 rfl) ?_
        have e_f : fN_teeth m0 m1 m2 m3 m4 x y w h stp = nn := hres_84.trans ((if_pos c_1).trans (rfl))
        exact W.iret (v := nn) hx hb hr (fun t ht hW => ⟨by rw [e_f], ht⟩) (fun _ h => by cases h) dN_teeth_142
      · refine lv_iconst (v := 0) hx hb dN_teeth_91 (by decide) ?_
        refine lv_istore (lv' := [(10, .int 0), (8, .int nn), (9, .int wi8), (7, .ref qm), (0, .ref h0), (1, .int mi), (2, .int x), (3, .int y), (4, .int w), (5, .int h), (6, .int stp)]) hx hb dN_teeth_92 hl (by decide) rfl (fun ls hl => ?_)
        have lp_94 : ∀ (n_94 : Nat) (n2 : Int32) (wj : Int32), (xl_t n_94 wj) → fN_teeth m0 m1 m2 m3 m4 x y w h stp = kN_teeth_94a m0 m1 m2 m3 m4 x y w h stp nn wi8 (fun nn wi8 => kN_teeth_84a m0 m1 m2 m3 m4 x y w h stp n_84 nn wi8) n_94 n2 wj → ∀ ls : Array Slot, lv_has ls 11 [(8, .int n2), (10, .int wj), (9, .int wi8), (7, .ref qm), (0, .ref h0), (1, .int mi), (2, .int x), (3, .int y), (4, .int w), (5, .int h), (6, .int stp)] → W p l e (headSpec [.code yN_teeth bN_teeth 11 (some (.int))] ({ frames := 3, cells := 0, slots := 0, locals := 64 })).room s m ([.ref h0, .int mi, .int x, .int y, .int w, .int h, .int stp] : List Value).toArray below meth c s.heap [] 0 0 (MQ below (xb_R (some (.int (fN_teeth m0 m1 m2 m3 m4 x y w h stp)))) ([.ref h0, .int mi, .int x, .int y, .int w, .int h, .int stp] : List Value).toArray s 0 0 (fun _ => False)) (F0 m 94 ls []) := by
          intro n_94
          induction n_94 with
          | zero =>
            intro n2 wj hinv_94
            exact xl_t0 hinv_94
          | succ n_94 ih_94 =>
            intro n2 wj hinv_94 hres_94 ls hl
            refine lv_iload hx hb dN_teeth_94 (lv_at hl 1 rfl) ?_
            refine lv_iload hx hb dN_teeth_96 (lv_at hl 9 rfl) ?_
            refine lv_icmp_gt (tgt := 130) hx hb dN_teeth_98 (by decide) (fun c_2 => ?_) (fun c_2 => ?_)
            · refine lv_iload hx hb dN_teeth_130 (lv_at hl 2 rfl) ?_
              refine lv_iload hx hb dN_teeth_132 (lv_at hl 10 rfl) ?_
              refine lv_iadd hx hb dN_teeth_134 ?_
              refine lv_istore (lv' := [(9, .int (wi8 + stp)), (8, .int n2), (10, .int wj), (7, .ref qm), (0, .ref h0), (1, .int mi), (2, .int x), (3, .int y), (4, .int w), (5, .int h), (6, .int stp)]) hx hb dN_teeth_135 hl (by decide) rfl (fun ls hl => ?_)
              refine lv_goto (tgt := 84) hx hb dN_teeth_137 (by decide) ?_
              have v_inv : xl_t n_84 (wi8 + stp) := xn_ts hinv_84 c_1 gb va vb
              have v_res : fN_teeth m0 m1 m2 m3 m4 x y w h stp = kN_teeth_84a m0 m1 m2 m3 m4 x y w h stp n_84 n2 (wi8 + stp) := hres_94.trans ((if_pos c_2).trans (rfl))
              exact ih_84 n2 (wi8 + stp) v_inv v_res ls (lv_sub hl [1, 0, 3, 4, 5, 6, 7, 8, 9, 10] rfl)
            · refine lv_aload hx hb dN_teeth_101 (lv_at hl 3 rfl) ?_
              refine lv_iload_n hx hb dN_teeth_103 rfl (lv_at hl 6 rfl) ?_
              refine lv_iload hx hb dN_teeth_104 (lv_at hl 2 rfl) ?_
              refine lv_iadd hx hb dN_teeth_106 ?_
              refine lv_iload_n hx hb dN_teeth_107 rfl (lv_at hl 7 rfl) ?_
              refine lv_iload hx hb dN_teeth_108 (lv_at hl 1 rfl) ?_
              refine lv_iadd hx hb dN_teeth_110 ?_
              refine xb_rdN (va_runVN (C := "NailRules$Member") (As := [.int (x + wi8), .int (y + wj)]) (rest := []) ⟨hx, hb, hml, hown, hts⟩ (cM_grips l E qm ms m0 m1 m2 m3 m4 (x + wi8) (y + wj) hm0 hm1 hm2 hm3 hm4) ⟨va_cnB 2 hts (xb_gi (List.forall_mem_cons.mpr ⟨xk_613, fun _ h => absurd h List.not_mem_nil⟩)) rfl rfl rfl (xb_nest E hAt xk_610) (hts _ xk_57) (by decide +kernel) ⟨Nat.le_of_ble_eq_true rfl, Nat.le_of_ble_eq_true rfl⟩, hts _ xk_612, hts _ xk_26⟩ ⟨fun _ _ _ _ q => q, va_recv hK hP (ci := 2) (q0 := 3) rfl rfl, fun U hU hW => ⟨rfl, xb_at0 hAt hU hW, by rw [hU]; exact hP.sub (ws' := [(qm, .inr (2, ms))]) [3] rfl⟩⟩ rfl rfl hl.1 rfl (lv_room (Nat.le_of_ble_eq_true rfl)) dN_teeth_111 ⟨Nat.zero_le _, Nat.zero_le _⟩) ?_
              refine lv_if_eq (tgt := 120) hx hb dN_teeth_114 (by decide) (fun c_4 => ?_) (fun c_4 => ?_)
              · have c_4 := xb_bi_f.mp c_4
                refine lv_iload hx hb dN_teeth_120 (lv_at hl 1 rfl) ?_
                refine lv_iload hx hb dN_teeth_122 (lv_at hl 10 rfl) ?_
                refine lv_iadd hx hb dN_teeth_124 ?_
                refine lv_istore (lv' := [(10, .int (wj + stp)), (8, .int n2), (9, .int wi8), (7, .ref qm), (0, .ref h0), (1, .int mi), (2, .int x), (3, .int y), (4, .int w), (5, .int h), (6, .int stp)]) hx hb dN_teeth_125 hl (by decide) rfl (fun ls hl => ?_)
                refine lv_goto (tgt := 94) hx hb dN_teeth_127 (by decide) ?_
                have v_inv : xl_t n_94 (wj + stp) := xn_ts hinv_94 c_2 qb va vb
                have v_res : fN_teeth m0 m1 m2 m3 m4 x y w h stp = kN_teeth_94a m0 m1 m2 m3 m4 x y w h stp nn wi8 (fun nn wi8 => kN_teeth_84a m0 m1 m2 m3 m4 x y w h stp n_84 nn wi8) n_94 n2 (wj + stp) := hres_94.trans ((if_neg c_2).trans ((if_neg c_4).trans (rfl)))
                exact ih_94 n2 (wj + stp) v_inv v_res ls (lv_sub hl [1, 0, 2, 3, 4, 5, 6, 7, 8, 9, 10] rfl)
              · have c_4 := xb_bi_t.mp c_4
                refine lv_iinc (v := n2 + 1) (lv' := [(8, .int (n2 + 1)), (10, .int wj), (9, .int wi8), (7, .ref qm), (0, .ref h0), (1, .int mi), (2, .int x), (3, .int y), (4, .int w), (5, .int h), (6, .int stp)]) hx hb dN_teeth_117 hl (k := 0) rfl rfl (by decide) rfl (fun ls hl => ?_)
                refine lv_iload hx hb dN_teeth_120 (lv_at hl 1 rfl) ?_
                refine lv_iload hx hb dN_teeth_122 (lv_at hl 10 rfl) ?_
                refine lv_iadd hx hb dN_teeth_124 ?_
                refine lv_istore (lv' := [(10, .int (wj + stp)), (8, .int (n2 + 1)), (9, .int wi8), (7, .ref qm), (0, .ref h0), (1, .int mi), (2, .int x), (3, .int y), (4, .int w), (5, .int h), (6, .int stp)]) hx hb dN_teeth_125 hl (by decide) rfl (fun ls hl => ?_)
                refine lv_goto (tgt := 94) hx hb dN_teeth_127 (by decide) ?_
                have v_inv : xl_t n_94 (wj + stp) := xn_ts hinv_94 c_2 qb va vb
                have v_res : fN_teeth m0 m1 m2 m3 m4 x y w h stp = kN_teeth_94a m0 m1 m2 m3 m4 x y w h stp nn wi8 (fun nn wi8 => kN_teeth_84a m0 m1 m2 m3 m4 x y w h stp n_84 nn wi8) n_94 (n2 + 1) (wj + stp) := hres_94.trans ((if_neg c_2).trans ((if_pos c_4).trans (rfl)))
                exact ih_94 (n2 + 1) (wj + stp) v_inv v_res ls (lv_sub hl [1, 0, 2, 3, 4, 5, 6, 7, 8, 9, 10] rfl)
        have v_inv : xl_t 201 (0 : Int32) := ⟨0, rfl, by omega, by omega⟩
        have v_res : fN_teeth m0 m1 m2 m3 m4 x y w h stp = kN_teeth_94a m0 m1 m2 m3 m4 x y w h stp nn wi8 (fun nn wi8 => kN_teeth_84a m0 m1 m2 m3 m4 x y w h stp n_84 nn wi8) 201 nn (0) := hres_84.trans ((if_neg c_1).trans (rfl))
        exact lp_94 201 nn (0) v_inv v_res ls (lv_sub hl [1, 0, 2, 3, 4, 5, 6, 7, 8, 9, 10] rfl)
  have v_inv : xl_t 201 (0 : Int32) := ⟨0, rfl, by omega, by omega⟩
  have v_res : fN_teeth m0 m1 m2 m3 m4 x y w h stp = kN_teeth_84a m0 m1 m2 m3 m4 x y w h stp 201 (0) (0) := rfl
  exact lp_84 201 (0) (0) v_inv v_res ls (lv_sub hl [1, 0, 2, 3, 4, 5, 6, 7, 8, 9] rfl)
