/-- a counter at a loop's head: from lo to hi, n turns left -/
def xl_c (lo hi n : Nat) (w : Int32) : Prop := ∃ i : Nat, w = nI i ∧ lo ≤ i ∧ i + n = hi + 1 ∧ i ≤ hi
theorem xl_0 {lo hi : Nat} {w : Int32} {G : Prop} (h : xl_c lo hi 0 w) : G := by
  obtain ⟨i, -, h1, h2, h3⟩ := h
  omega
theorem xl_s1 {lo hi n : Nat} {w b : Int32} (h : xl_c lo hi (n + 1) w) (hh : hi < 2 ^ 30) (hb : b.toInt ≤ hi) (c : ¬ b ≤ w) : xl_c lo hi n (w + 1) := by
  obtain ⟨i, rfl, h1, h2, h3⟩ := h
  rw [Int32.le_iff_toInt_le, nI_toInt (by omega)] at c
  exact ⟨i + 1, nI_1 i, by omega, by omega, by omega⟩
theorem xl_s2 {lo hi n : Nat} {w b : Int32} (h : xl_c lo hi (n + 1) w) (hh : hi < 2 ^ 30) (hb : b.toInt < hi) (c : ¬ b < w) : xl_c lo hi n (w + 1) := by
  obtain ⟨i, rfl, h1, h2, h3⟩ := h
  rw [Int32.lt_iff_toInt_lt, nI_toInt (by omega)] at c
  exact ⟨i + 1, nI_1 i, by omega, by omega, by omega⟩
theorem xl_s3 {lo hi n : Nat} {w q b : Int32} (h : xl_c lo hi (n + 1) w) (hh : hi < 2 ^ 30) (hq : q ≤ b) (hb : b.toInt ≤ hi) (c : ¬ q ≤ w) : xl_c lo hi n (w + 1) := by
  rw [Int32.le_iff_toInt_le] at hq
  refine xl_s1 h hh (b := q) (by omega) c
theorem xl_in {lo hi n N : Nat} {w q b : Int32} (h : xl_c lo hi n w) (hh : hi < 2 ^ 30) (hq : q ≤ b) (hb : b.toInt ≤ N) (c : ¬ q ≤ w) : vp_in w N := by
  obtain ⟨i, rfl, h1, h2, h3⟩ := h
  rw [Int32.le_iff_toInt_le, nI_toInt (by omega)] at c
  rw [Int32.le_iff_toInt_le] at hq
  rw [vp_in_iff, nI_toInt (by omega)]
  omega
def kN_leastFormula_6a (rf : Nat → Int32) (kind : Int32) (a : Int32) (b : Int32) : Nat → Int32 → Int32 → Int32
  | 0, _, _ => default
  | n_6 + 1, be, wh => if 4 ≤ wh then (be) else (if (fN_formula rf be kind a b) ≤ (fN_formula rf wh kind a b) then (kN_leastFormula_6a rf kind a b n_6 be (wh + 1)) else (kN_leastFormula_6a rf kind a b n_6 wh (wh + 1)))
def fN_leastFormula (rf : Nat → Int32) (kind : Int32) (a : Int32) (b : Int32) : Int32 := kN_leastFormula_6a rf kind a b 4 (0) (1)
set_option maxHeartbeats 4000000 in
set_option maxRecDepth 100000 in
theorem cN_leastFormula (l : Launch) {s0 : State} {dC : Nat → ClassId} {dI : Nat → Nat → Nat} {cI cC cL cO : ClassId} (E : xb_Env l s0 dC dI (xtys cI cC cL cO)) (h0 : Nat) (fs : List Value) (ra : Nat) (rf : Nat → Int32) (kind : Int32) (a : Int32) (b : Int32) (hf1 : fs[1]? = some (.ref ra)) (hz : vp_in (kind * 7 + 0) 28) (ho : vp_in (kind * 7 + 1) 28) : Met l yN_leastFormula [.code yN_leastFormula bN_leastFormula 6 (some (.int))] ({ frames := 2, cells := 0, slots := 0, locals := 50 }) (va_Pc [.ref h0, .int kind, .int a, .int b] (fun U => xb_At s0 U ∧ va_P (dC, dI) classes [(h0, .inr (0, fs)), (ra, .inl (cI, 28, .inl rf))] U.heap)) (xb_R (some (.int (fN_leastFormula rf kind a b)))) 0 0 (fun _ => False) := by
  refine Met.ofW (cc := bN_leastFormula) (maxL := 6) (ret := (some (.int))) (by decide) rfl ?_
  intro p e s m args below meth c s₁ B hml hv
  obtain ⟨rfl, hAt, hP⟩ := hv
  have hx := B.exec
  have hb := B.bytes
  have hr := B.returns
  have hts := xb_hts E hAt ([.ref h0, .int kind, .int a, .int b] : List Value).toArray
  have hown : s.vm.findClass "NailRules" = some m.cls := findClass_of_methodNamed B.named
  have hlocks := B.notSynchronized
  have hK := xb_K E hAt
  have hl := lv_entry ([.ref h0, .int kind, .int a, .int b]) (n := 6) (Nat.le_of_ble_eq_true rfl)
  rw [lg_entry_eq]
  generalize (lg_sl ([.ref h0, .int kind, .int a, .int b]) ++ List.replicate (6 - (lg_sl ([.ref h0, .int kind, .int a, .int b])).length) Slot.unset).toArray = ls at hl ⊢
  have hl : lv_has ls 6 [(0, .ref h0), (1, .int kind), (2, .int a), (3, .int b)] := hl
  refine lv_iconst (v := 0) hx hb dN_leastFormula_0 (by decide) ?_
  refine lv_istore (lv' := [(4, .int 0), (0, .ref h0), (1, .int kind), (2, .int a), (3, .int b)]) hx hb dN_leastFormula_1 hl (by decide) rfl (fun ls hl => ?_)
  refine lv_iconst (v := 1) hx hb dN_leastFormula_3 (by decide) ?_
  refine lv_istore (lv' := [(5, .int 1), (4, .int 0), (0, .ref h0), (1, .int kind), (2, .int a), (3, .int b)]) hx hb dN_leastFormula_4 hl (by decide) rfl (fun ls hl => ?_)
  have lp_6 : ∀ (n_6 : Nat) (be : Int32) (wh : Int32), (xl_c 1 4 n_6 wh) → fN_leastFormula rf kind a b = kN_leastFormula_6a rf kind a b n_6 be wh → ∀ ls : Array Slot, lv_has ls 6 [(4, .int be), (5, .int wh), (0, .ref h0), (1, .int kind), (2, .int a), (3, .int b)] → W p l e (headSpec [.code yN_leastFormula bN_leastFormula 6 (some (.int))] ({ frames := 2, cells := 0, slots := 0, locals := 50 })).room s m ([.ref h0, .int kind, .int a, .int b] : List Value).toArray below meth c s.heap [] 0 0 (MQ below (xb_R (some (.int (fN_leastFormula rf kind a b)))) ([.ref h0, .int kind, .int a, .int b] : List Value).toArray s 0 0 (fun _ => False)) (F0 m 6 ls []) := by
    intro n_6
    induction n_6 with
    | zero =>
      intro be wh hinv_6
      exact xl_0 hinv_6
    | succ n_6 ih_6 =>
      intro be wh hinv_6 hres_6 ls hl
      refine lv_iload hx hb dN_leastFormula_6 (lv_at hl 1 rfl) ?_
      refine lv_iconst (v := 4) hx hb dN_leastFormula_8 (by decide) ?_
      refine lv_icmp_ge (tgt := 44) hx hb dN_leastFormula_9 (by decide) (fun c_1 => ?_) (fun c_1 => ?_)
      · refine lv_iload hx hb dN_leastFormula_44 (lv_at hl 0 rfl) ?_
        have e_f : fN_leastFormula rf kind a b = be := hres_6.trans ((if_pos c_1).trans (rfl))
        exact W.iret (v := be) hx hb hr (fun t ht hW => ⟨by rw [e_f], ht⟩) (fun _ h => by cases h) dN_leastFormula_46
      · refine lv_aload_n hx hb dN_leastFormula_12 rfl (lv_at hl 2 rfl) ?_
        refine lv_iload hx hb dN_leastFormula_13 (lv_at hl 1 rfl) ?_
        refine lv_iload_n hx hb dN_leastFormula_15 rfl (lv_at hl 3 rfl) ?_
        refine lv_iload_n hx hb dN_leastFormula_16 rfl (lv_at hl 4 rfl) ?_
        refine lv_iload_n hx hb dN_leastFormula_17 rfl (lv_at hl 5 rfl) ?_
        refine xb_rd (W.runV (C := "NailRules") (As := [.int wh, .int kind, .int a, .int b]) (rest := []) ⟨hx, hb, hml, hown, hts⟩ (cN_formula l E h0 fs ra rf wh kind a b hf1 (by assumption) (by assumption)) (cwV 4 hts (xb_gi (List.forall_mem_cons.mpr ⟨xk_403, List.forall_mem_cons.mpr ⟨xk_405, List.forall_mem_cons.mpr ⟨xk_16, List.forall_mem_cons.mpr ⟨xk_40, List.forall_mem_cons.mpr ⟨xk_406, fun _ h => absurd h List.not_mem_nil⟩⟩⟩⟩⟩)) rfl rfl rfl (by decide +kernel) ⟨Nat.le_of_ble_eq_true rfl, Nat.le_of_ble_eq_true rfl⟩) ⟨fun _ _ _ _ q => q, va_recv hK hP (ci := 0) (q0 := 0) rfl rfl, fun U hU hW => ⟨rfl, xb_at0 hAt hU hW, by rw [hU]; exact hP.sub (ws' := [(h0, .inr (0, fs)), (ra, .inl (cI, 28, .inl rf))]) [0, 1] rfl⟩⟩ rfl rfl hl.1 rfl (lv_room (Nat.le_of_ble_eq_true rfl)) dN_leastFormula_18 ⟨Nat.zero_le _, Nat.zero_le _⟩) ?_
        refine lv_aload_n hx hb dN_leastFormula_21 rfl (lv_at hl 2 rfl) ?_
        refine lv_iload hx hb dN_leastFormula_22 (lv_at hl 0 rfl) ?_
        refine lv_iload_n hx hb dN_leastFormula_24 rfl (lv_at hl 3 rfl) ?_
        refine lv_iload_n hx hb dN_leastFormula_25 rfl (lv_at hl 4 rfl) ?_
        refine lv_iload_n hx hb dN_leastFormula_26 rfl (lv_at hl 5 rfl) ?_
        refine xb_rd (W.runV (C := "NailRules") (As := [.int be, .int kind, .int a, .int b]) (rest := [.long (fN_formula rf wh kind a b)]) ⟨hx, hb, hml, hown, hts⟩ (cN_formula l E h0 fs ra rf be kind a b hf1 (by assumption) (by assumption)) (cwV 4 hts (xb_gi (List.forall_mem_cons.mpr ⟨xk_403, List.forall_mem_cons.mpr ⟨xk_405, List.forall_mem_cons.mpr ⟨xk_16, List.forall_mem_cons.mpr ⟨xk_40, List.forall_mem_cons.mpr ⟨xk_406, fun _ h => absurd h List.not_mem_nil⟩⟩⟩⟩⟩)) rfl rfl rfl (by decide +kernel) ⟨Nat.le_of_ble_eq_true rfl, Nat.le_of_ble_eq_true rfl⟩) ⟨fun _ _ _ _ q => q, va_recv hK hP (ci := 0) (q0 := 0) rfl rfl, fun U hU hW => ⟨rfl, xb_at0 hAt hU hW, by rw [hU]; exact hP.sub (ws' := [(h0, .inr (0, fs)), (ra, .inl (cI, 28, .inl rf))]) [0, 1] rfl⟩⟩ rfl rfl hl.1 rfl (lv_room (Nat.le_of_ble_eq_true rfl)) dN_leastFormula_27 ⟨Nat.zero_le _, Nat.zero_le _⟩) ?_
        refine W.lcmp hx hb dN_leastFormula_30 ?_
        refine lv_if_ge (tgt := 38) hx hb dN_leastFormula_31 (by decide) (fun c_2 => ?_) (fun c_2 => ?_)
        · have c_2 := (lg_cmp_ge _ _).mp c_2
          refine lv_iinc (v := wh + 1) (lv' := [(5, .int (wh + 1)), (4, .int be), (0, .ref h0), (1, .int kind), (2, .int a), (3, .int b)]) hx hb dN_leastFormula_38 hl (k := 1) rfl rfl (by decide) rfl (fun ls hl => ?_)
          refine lv_goto (tgt := 6) hx hb dN_leastFormula_41 (by decide) ?_
          have v_inv : xl_c 1 4 n_6 (wh + 1) := xl_s1 (b := 4) hinv_6 (by decide) (by decide) c_1
          have v_res : fN_leastFormula rf kind a b = kN_leastFormula_6a rf kind a b n_6 be (wh + 1) := hres_6.trans ((if_neg c_1).trans ((if_pos c_2).trans (rfl)))
          exact ih_6 be (wh + 1) v_inv v_res ls (lv_sub hl [1, 0, 2, 3, 4, 5] rfl)
        · have c_2 := fun q => c_2 ((lg_cmp_ge _ _).mpr q)
          refine lv_iload hx hb dN_leastFormula_34 (lv_at hl 1 rfl) ?_
          refine lv_istore (lv' := [(4, .int wh), (5, .int wh), (0, .ref h0), (1, .int kind), (2, .int a), (3, .int b)]) hx hb dN_leastFormula_36 hl (by decide) rfl (fun ls hl => ?_)
          refine lv_iinc (v := wh + 1) (lv' := [(5, .int (wh + 1)), (4, .int wh), (0, .ref h0), (1, .int kind), (2, .int a), (3, .int b)]) hx hb dN_leastFormula_38 hl (k := 1) rfl rfl (by decide) rfl (fun ls hl => ?_)
          refine lv_goto (tgt := 6) hx hb dN_leastFormula_41 (by decide) ?_
          have v_inv : xl_c 1 4 n_6 (wh + 1) := xl_s1 (b := 4) hinv_6 (by decide) (by decide) c_1
          have v_res : fN_leastFormula rf kind a b = kN_leastFormula_6a rf kind a b n_6 wh (wh + 1) := hres_6.trans ((if_neg c_1).trans ((if_neg c_2).trans (rfl)))
          exact ih_6 wh (wh + 1) v_inv v_res ls (lv_sub hl [1, 0, 2, 3, 4, 5] rfl)
  have v_inv : xl_c 1 4 4 (1 : Int32) := ⟨1, rfl, by omega, by omega, by omega⟩
  have v_res : fN_leastFormula rf kind a b = kN_leastFormula_6a rf kind a b 4 (0) (1) := rfl
  exact lp_6 4 (0) (1) v_inv v_res ls (lv_sub hl [1, 0, 2, 3, 4, 5] rfl)

def kN_count_19a (less : Int32) (load : Int64) (one : Int64) : Nat → Int32 → Int32
  | 0, _ => default
  | n_19 + 1, wn => if 100 < wn then ((-1)) else (if (fN_heldByRow less wn one) < load then (kN_count_19a less load one n_19 (wn + 1)) else (wn))
def fN_count (less : Int32) (load : Int64) (one : Int64) : Int32 := kN_count_19a less load one 101 (1)
set_option maxHeartbeats 4000000 in
set_option maxRecDepth 100000 in
theorem cN_count (l : Launch) {s0 : State} {dC : Nat → ClassId} {dI : Nat → Nat → Nat} {cI cC cL cO : ClassId} (E : xb_Env l s0 dC dI (xtys cI cC cL cO)) (h0 : Nat) (fs : List Value) (less : Int32) (load : Int64) (one : Int64) (hf3 : fs[3]? = some (.int less)) (l1 : ¬ load < 0) (l2 : load ≤ 1000000000000) (o1 : ¬ one < 0) (o2 : one ≤ 1000000000000) : Met l yN_count [.code yN_count bN_count 6 (some (.int))] ({ frames := 2, cells := 0, slots := 0, locals := 37 }) (va_Pc [.ref h0, .long load, .long one] (fun U => xb_At s0 U ∧ va_P (dC, dI) classes [(h0, .inr (0, fs))] U.heap)) (xb_R (some (.int (fN_count less load one)))) 0 0 (fun _ => False) := by
  refine Met.ofW (cc := bN_count) (maxL := 6) (ret := (some (.int))) (by decide) rfl ?_
  intro p e s m args below meth c s₁ B hml hv
  obtain ⟨rfl, hAt, hP⟩ := hv
  have hx := B.exec
  have hb := B.bytes
  have hr := B.returns
  have hts := xb_hts E hAt ([.ref h0, .long load, .long one] : List Value).toArray
  have hown : s.vm.findClass "NailRules" = some m.cls := findClass_of_methodNamed B.named
  have hlocks := B.notSynchronized
  have hK := xb_K E hAt
  have hl := lv_entry ([.ref h0, .long load, .long one]) (n := 6) (Nat.le_of_ble_eq_true rfl)
  rw [lg_entry_eq]
  generalize (lg_sl ([.ref h0, .long load, .long one]) ++ List.replicate (6 - (lg_sl ([.ref h0, .long load, .long one])).length) Slot.unset).toArray = ls at hl ⊢
  have hl : lv_has ls 6 [(0, .ref h0), (1, .long load), (3, .long one)] := hl
  refine lv_lload_n hx hb dN_count_0 rfl (lv_at hl 1 rfl) ?_
  refine lv_lconst (v := 0) hx hb dN_count_1 (by decide) ?_
  refine lv_ldc2 (v := 1000000000000) hx hb hown (hts _ xk_417) dN_count_2 ?_
  refine xb_rd (W.runS (As := [.long load, .long 0, .long 1000000000000]) (rest := []) ⟨hx, hb, hml, hown, hts⟩ (cN_requireWithin l E load 0 1000000000000 (by assumption) (by assumption)) (cwS 3 hts (xb_gi (List.forall_mem_cons.mpr ⟨xk_371, List.forall_mem_cons.mpr ⟨xk_372, List.forall_mem_cons.mpr ⟨xk_40, List.forall_mem_cons.mpr ⟨xk_373, fun _ h => absurd h List.not_mem_nil⟩⟩⟩⟩)) rfl rfl rfl (by decide +kernel) ⟨Nat.le_of_ble_eq_true rfl, Nat.le_of_ble_eq_true rfl⟩) ⟨fun _ _ _ _ q => q, fun U hU hW => ⟨rfl, xb_at0 hAt hU hW, fun k q h => by simp at h⟩⟩ rfl rfl hl.1 rfl (lv_room (Nat.le_of_ble_eq_true rfl)) dN_count_5 ⟨Nat.zero_le _, Nat.zero_le _⟩) ?_
  refine lv_lload_n hx hb dN_count_8 rfl (lv_at hl 2 rfl) ?_
  refine lv_lconst (v := 0) hx hb dN_count_9 (by decide) ?_
  refine lv_ldc2 (v := 1000000000000) hx hb hown (hts _ xk_417) dN_count_10 ?_
  refine xb_rd (W.runS (As := [.long one, .long 0, .long 1000000000000]) (rest := []) ⟨hx, hb, hml, hown, hts⟩ (cN_requireWithin l E one 0 1000000000000 (by assumption) (by assumption)) (cwS 3 hts (xb_gi (List.forall_mem_cons.mpr ⟨xk_371, List.forall_mem_cons.mpr ⟨xk_372, List.forall_mem_cons.mpr ⟨xk_40, List.forall_mem_cons.mpr ⟨xk_373, fun _ h => absurd h List.not_mem_nil⟩⟩⟩⟩)) rfl rfl rfl (by decide +kernel) ⟨Nat.le_of_ble_eq_true rfl, Nat.le_of_ble_eq_true rfl⟩) ⟨fun _ _ _ _ q => q, fun U hU hW => ⟨rfl, xb_at0 hAt hU hW, fun k q h => by simp at h⟩⟩ rfl rfl hl.1 rfl (lv_room (Nat.le_of_ble_eq_true rfl)) dN_count_13 ⟨Nat.zero_le _, Nat.zero_le _⟩) ?_
  refine lv_iconst (v := 1) hx hb dN_count_16 (by decide) ?_
  refine lv_istore (lv' := [(5, .int 1), (0, .ref h0), (1, .long load), (3, .long one)]) hx hb dN_count_17 hl (by decide) rfl (fun ls hl => ?_)
  have lp_19 : ∀ (n_19 : Nat) (wn : Int32), (xl_c 1 101 n_19 wn) → fN_count less load one = kN_count_19a less load one n_19 wn → ∀ ls : Array Slot, lv_has ls 6 [(5, .int wn), (0, .ref h0), (1, .long load), (3, .long one)] → W p l e (headSpec [.code yN_count bN_count 6 (some (.int))] ({ frames := 2, cells := 0, slots := 0, locals := 37 })).room s m ([.ref h0, .long load, .long one] : List Value).toArray below meth c s.heap [] 0 0 (MQ below (xb_R (some (.int (fN_count less load one)))) ([.ref h0, .long load, .long one] : List Value).toArray s 0 0 (fun _ => False)) (F0 m 19 ls []) := by
    intro n_19
    induction n_19 with
    | zero =>
      intro wn hinv_19
      exact xl_0 hinv_19
    | succ n_19 ih_19 =>
      intro wn hinv_19 hres_19 ls hl
      refine lv_iload hx hb dN_count_19 (lv_at hl 0 rfl) ?_
      refine lv_bipush (v := 100) hx hb dN_count_21 (by decide) ?_
      refine lv_icmp_gt (tgt := 47) hx hb dN_count_23 (by decide) (fun c_1 => ?_) (fun c_1 => ?_)
      · refine lv_iconst (v := (-1)) hx hb dN_count_47 (by decide) ?_
        have e_f : fN_count less load one = (-1) := hres_19.trans ((if_pos c_1).trans (rfl))
        exact W.iret (v := (-1)) hx hb hr (fun t ht hW => ⟨by rw [e_f], ht⟩) (fun _ h => by cases h) dN_count_48
      · refine lv_aload_n hx hb dN_count_26 rfl (lv_at hl 1 rfl) ?_
        refine lv_iload hx hb dN_count_27 (lv_at hl 0 rfl) ?_
        refine lv_lload_n hx hb dN_count_29 rfl (lv_at hl 3 rfl) ?_
        refine xb_rd (W.runV (C := "NailRules") (As := [.int wn, .long one]) (rest := []) ⟨hx, hb, hml, hown, hts⟩ (cN_heldByRow l E h0 fs less wn one hf3) (cwV 2 hts (xb_gi (List.forall_mem_cons.mpr ⟨xk_418, List.forall_mem_cons.mpr ⟨xk_420, List.forall_mem_cons.mpr ⟨xk_17, List.forall_mem_cons.mpr ⟨xk_40, List.forall_mem_cons.mpr ⟨xk_421, fun _ h => absurd h List.not_mem_nil⟩⟩⟩⟩⟩)) rfl rfl rfl (by decide +kernel) ⟨Nat.le_of_ble_eq_true rfl, Nat.le_of_ble_eq_true rfl⟩) ⟨fun _ _ _ _ q => q, va_recv hK hP (ci := 0) (q0 := 0) rfl rfl, fun U hU hW => ⟨rfl, xb_at0 hAt hU hW, by rw [hU]; exact hP.sub (ws' := [(h0, .inr (0, fs))]) [0] rfl⟩⟩ rfl rfl hl.1 rfl (lv_room (Nat.le_of_ble_eq_true rfl)) dN_count_30 ⟨Nat.zero_le _, Nat.zero_le _⟩) ?_
        refine lv_lload_n hx hb dN_count_33 rfl (lv_at hl 2 rfl) ?_
        refine W.lcmp hx hb dN_count_34 ?_
        refine lv_if_lt (tgt := 41) hx hb dN_count_35 (by decide) (fun c_2 => ?_) (fun c_2 => ?_)
        · have c_2 := (lg_cmp_lt _ _).mp c_2
          refine lv_iinc (v := wn + 1) (lv' := [(5, .int (wn + 1)), (0, .ref h0), (1, .long load), (3, .long one)]) hx hb dN_count_41 hl (k := 0) rfl rfl (by decide) rfl (fun ls hl => ?_)
          refine lv_goto (tgt := 19) hx hb dN_count_44 (by decide) ?_
          have v_inv : xl_c 1 101 n_19 (wn + 1) := xl_s2 (b := 100) hinv_19 (by decide) (by decide) c_1
          have v_res : fN_count less load one = kN_count_19a less load one n_19 (wn + 1) := hres_19.trans ((if_neg c_1).trans ((if_pos c_2).trans (rfl)))
          exact ih_19 (wn + 1) v_inv v_res ls (lv_sub hl [0, 1, 2, 3] rfl)
        · have c_2 := fun q => c_2 ((lg_cmp_lt _ _).mpr q)
          refine lv_iload hx hb dN_count_38 (lv_at hl 0 rfl) ?_
          have e_f : fN_count less load one = wn := hres_19.trans ((if_neg c_1).trans ((if_neg c_2).trans (rfl)))
          exact W.iret (v := wn) hx hb hr (fun t ht hW => ⟨by rw [e_f], ht⟩) (fun _ h => by cases h) dN_count_40
  have v_inv : xl_c 1 101 101 (1 : Int32) := ⟨1, rfl, by omega, by omega, by omega⟩
  have v_res : fN_count less load one = kN_count_19a less load one 101 (1) := rfl
  exact lp_19 101 (1) v_inv v_res ls (lv_sub hl [0, 1, 2, 3] rfl)

def kN_firstNearSide_19a (rf : Nat → Int32) (xf : Nat → Int32) (yf : Nat → Int32) (qn : Int32) (kind : Int32) (w : Int32) (h : Int32) : Nat → Int32 → Int32
  | 0, _ => default
  | n_19 + 1, wk => if qn ≤ wk then ((-1)) else (if (if (w - (xf wk.toNatClampNeg)) < (xf wk.toNatClampNeg) then (w - (xf wk.toNatClampNeg)) else (xf wk.toNatClampNeg)) < (fN_space rf kind (3)) then (wk) else (if (fN_space rf kind (2)) ≤ (if (h - (yf wk.toNatClampNeg)) < (yf wk.toNatClampNeg) then (h - (yf wk.toNatClampNeg)) else (yf wk.toNatClampNeg)) then (kN_firstNearSide_19a rf xf yf qn kind w h n_19 (wk + 1)) else (wk)))
def fN_firstNearSide (rf : Nat → Int32) (xf : Nat → Int32) (yf : Nat → Int32) (qn : Int32) (kind : Int32) (w : Int32) (h : Int32) : Int32 := kN_firstNearSide_19a rf xf yf qn kind w h 33 (0)
set_option maxHeartbeats 4000000 in
set_option maxRecDepth 100000 in
theorem cN_firstNearSide (l : Launch) {s0 : State} {dC : Nat → ClassId} {dI : Nat → Nat → Nat} {cI cC cL cO : ClassId} (E : xb_Env l s0 dC dI (xtys cI cC cL cO)) (h0 : Nat) (fs : List Value) (ra : Nat) (rf : Nat → Int32) (qx : Nat) (xf : Nat → Int32) (qy : Nat) (yf : Nat → Int32) (qn : Int32) (kind : Int32) (w : Int32) (h : Int32) (hf1 : fs[1]? = some (.ref ra)) (hf7 : fs[7]? = some (.ref qx)) (hf8 : fs[8]? = some (.ref qy)) (hf9 : fs[9]? = some (.int qn)) (hz : vp_in (kind * 7 + 0) 28) (h2 : vp_in (kind * 7 + 2) 28) (h3 : vp_in (kind * 7 + 3) 28) (hq : qn ≤ 32) : Met l yN_firstNearSide [.code yN_firstNearSide bN_firstNearSide 9 (some (.int))] ({ frames := 2, cells := 0, slots := 0, locals := 44 }) (va_Pc [.ref h0, .int kind, .int w, .int h] (fun U => xb_At s0 U ∧ va_P (dC, dI) classes [(h0, .inr (0, fs)), (ra, .inl (cI, 28, .inl rf)), (qx, .inl (cI, 32, .inl xf)), (qy, .inl (cI, 32, .inl yf))] U.heap)) (xb_R (some (.int (fN_firstNearSide rf xf yf qn kind w h)))) 0 0 (fun _ => False) := by
  refine Met.ofW (cc := bN_firstNearSide) (maxL := 9) (ret := (some (.int))) (by decide) rfl ?_
  intro p e s m args below meth c s₁ B hml hv
  obtain ⟨rfl, hAt, hP⟩ := hv
  have hx := B.exec
  have hb := B.bytes
  have hr := B.returns
  have hts := xb_hts E hAt ([.ref h0, .int kind, .int w, .int h] : List Value).toArray
  have hown : s.vm.findClass "NailRules" = some m.cls := findClass_of_methodNamed B.named
  have hlocks := B.notSynchronized
  have hK := xb_K E hAt
  have hl := lv_entry ([.ref h0, .int kind, .int w, .int h]) (n := 9) (Nat.le_of_ble_eq_true rfl)
  rw [lg_entry_eq]
  generalize (lg_sl ([.ref h0, .int kind, .int w, .int h]) ++ List.replicate (9 - (lg_sl ([.ref h0, .int kind, .int w, .int h])).length) Slot.unset).toArray = ls at hl ⊢
  have hl : lv_has ls 9 [(0, .ref h0), (1, .int kind), (2, .int w), (3, .int h)] := hl
  refine lv_aload_n hx hb dN_firstNearSide_0 rfl (lv_at hl 0 rfl) ?_
  refine lv_iload_n hx hb dN_firstNearSide_1 rfl (lv_at hl 1 rfl) ?_
  refine lv_iconst (v := 3) hx hb dN_firstNearSide_2 (by decide) ?_
  refine xb_rd (W.runV (C := "NailRules") (As := [.int kind, .int 3]) (rest := []) ⟨hx, hb, hml, hown, hts⟩ (cN_space l E h0 fs ra rf kind 3 hf1 (by assumption) (by assumption)) (cwV 2 hts (xb_gi (List.forall_mem_cons.mpr ⟨xk_438, List.forall_mem_cons.mpr ⟨xk_440, List.forall_mem_cons.mpr ⟨xk_18, List.forall_mem_cons.mpr ⟨xk_40, List.forall_mem_cons.mpr ⟨xk_441, fun _ h => absurd h List.not_mem_nil⟩⟩⟩⟩⟩)) rfl rfl rfl (by decide +kernel) ⟨Nat.le_of_ble_eq_true rfl, Nat.le_of_ble_eq_true rfl⟩) ⟨fun _ _ _ _ q => q, va_recv hK hP (ci := 0) (q0 := 0) rfl rfl, fun U hU hW => ⟨rfl, xb_at0 hAt hU hW, by rw [hU]; exact hP.sub (ws' := [(h0, .inr (0, fs)), (ra, .inl (cI, 28, .inl rf))]) [0, 1] rfl⟩⟩ rfl rfl hl.1 rfl (lv_room (Nat.le_of_ble_eq_true rfl)) dN_firstNearSide_3 ⟨Nat.zero_le _, Nat.zero_le _⟩) ?_
  refine lv_istore (lv' := [(4, .int (fN_space rf kind (3))), (0, .ref h0), (1, .int kind), (2, .int w), (3, .int h)]) hx hb dN_firstNearSide_6 hl (by decide) rfl (fun ls hl => ?_)
  refine lv_aload_n hx hb dN_firstNearSide_8 rfl (lv_at hl 1 rfl) ?_
  refine lv_iload_n hx hb dN_firstNearSide_9 rfl (lv_at hl 2 rfl) ?_
  refine lv_iconst (v := 2) hx hb dN_firstNearSide_10 (by decide) ?_
  refine xb_rd (W.runV (C := "NailRules") (As := [.int kind, .int 2]) (rest := []) ⟨hx, hb, hml, hown, hts⟩ (cN_space l E h0 fs ra rf kind 2 hf1 (by assumption) (by assumption)) (cwV 2 hts (xb_gi (List.forall_mem_cons.mpr ⟨xk_438, List.forall_mem_cons.mpr ⟨xk_440, List.forall_mem_cons.mpr ⟨xk_18, List.forall_mem_cons.mpr ⟨xk_40, List.forall_mem_cons.mpr ⟨xk_441, fun _ h => absurd h List.not_mem_nil⟩⟩⟩⟩⟩)) rfl rfl rfl (by decide +kernel) ⟨Nat.le_of_ble_eq_true rfl, Nat.le_of_ble_eq_true rfl⟩) ⟨fun _ _ _ _ q => q, va_recv hK hP (ci := 0) (q0 := 0) rfl rfl, fun U hU hW => ⟨rfl, xb_at0 hAt hU hW, by rw [hU]; exact hP.sub (ws' := [(h0, .inr (0, fs)), (ra, .inl (cI, 28, .inl rf))]) [0, 1] rfl⟩⟩ rfl rfl hl.1 rfl (lv_room (Nat.le_of_ble_eq_true rfl)) dN_firstNearSide_11 ⟨Nat.zero_le _, Nat.zero_le _⟩) ?_
  refine lv_istore (lv' := [(5, .int (fN_space rf kind (2))), (4, .int (fN_space rf kind (3))), (0, .ref h0), (1, .int kind), (2, .int w), (3, .int h)]) hx hb dN_firstNearSide_14 hl (by decide) rfl (fun ls hl => ?_)
  refine lv_iconst (v := 0) hx hb dN_firstNearSide_16 (by decide) ?_
  refine lv_istore (lv' := [(6, .int 0), (5, .int (fN_space rf kind (2))), (4, .int (fN_space rf kind (3))), (0, .ref h0), (1, .int kind), (2, .int w), (3, .int h)]) hx hb dN_firstNearSide_17 hl (by decide) rfl (fun ls hl => ?_)
  have lp_19 : ∀ (n_19 : Nat) (wk : Int32), (xl_c 0 32 n_19 wk) → fN_firstNearSide rf xf yf qn kind w h = kN_firstNearSide_19a rf xf yf qn kind w h n_19 wk → ∀ ls : Array Slot, lv_has ls 9 [(6, .int wk), (5, .int (fN_space rf kind (2))), (4, .int (fN_space rf kind (3))), (0, .ref h0), (1, .int kind), (2, .int w), (3, .int h)] → W p l e (headSpec [.code yN_firstNearSide bN_firstNearSide 9 (some (.int))] ({ frames := 2, cells := 0, slots := 0, locals := 44 })).room s m ([.ref h0, .int kind, .int w, .int h] : List Value).toArray below meth c s.heap [] 0 0 (MQ below (xb_R (some (.int (fN_firstNearSide rf xf yf qn kind w h)))) ([.ref h0, .int kind, .int w, .int h] : List Value).toArray s 0 0 (fun _ => False)) (F0 m 19 ls []) := by
    intro n_19
    induction n_19 with
    | zero =>
      intro wk hinv_19
      exact xl_0 hinv_19
    | succ n_19 ih_19 =>
      intro wk hinv_19 hres_19 ls hl
      refine lv_iload hx hb dN_firstNearSide_19 (lv_at hl 0 rfl) ?_
      refine lv_aload_n hx hb dN_firstNearSide_21 rfl (lv_at hl 3 rfl) ?_
      refine va_get (D := (dC, dI)) (ci := 0) (v := .int qn) (C := xR_N) (T := xF_N) (N := 11) hx hb hts xi_N hown hK hP 0 rfl rfl 9 (by decide) (hts _ xk_123) (fun _ h9 => h9) hf9 dN_firstNearSide_22 ?_
      refine lv_icmp_ge (tgt := 93) hx hb dN_firstNearSide_25 (by decide) (fun c_3 => ?_) (fun c_3 => ?_)
      · refine lv_iconst (v := (-1)) hx hb dN_firstNearSide_93 (by decide) ?_
        have e_f : fN_firstNearSide rf xf yf qn kind w h = (-1) := hres_19.trans ((if_pos c_3).trans (rfl))
        exact W.iret (v := (-1)) hx hb hr (fun t ht hW => ⟨by rw [e_f], ht⟩) (fun _ h => by cases h) dN_firstNearSide_94
      · refine lv_aload_n hx hb dN_firstNearSide_28 rfl (lv_at hl 3 rfl) ?_
        refine va_get (D := (dC, dI)) (ci := 0) (v := .ref qx) (C := xR_N) (T := xF_N) (N := 11) hx hb hts xi_N hown hK hP 0 rfl rfl 7 (by decide) (hts _ xk_121) (fun _ h9 => h9) hf7 dN_firstNearSide_29 ?_
        refine lv_iload hx hb dN_firstNearSide_32 (lv_at hl 0 rfl) ?_
        have o_4 : vp_in wk 32 := by exact xl_in hinv_19 (by decide) hq (by decide) (by assumption)
        refine va_iald hx hb hK hP 2 0 rfl rfl o_4 dN_firstNearSide_34 ?_
        refine lv_iload_n hx hb dN_firstNearSide_35 rfl (lv_at hl 5 rfl) ?_
        refine lv_aload_n hx hb dN_firstNearSide_36 rfl (lv_at hl 3 rfl) ?_
        refine va_get (D := (dC, dI)) (ci := 0) (v := .ref qx) (C := xR_N) (T := xF_N) (N := 11) hx hb hts xi_N hown hK hP 0 rfl rfl 7 (by decide) (hts _ xk_121) (fun _ h9 => h9) hf7 dN_firstNearSide_37 ?_
        refine lv_iload hx hb dN_firstNearSide_40 (lv_at hl 0 rfl) ?_
        have o_5 : vp_in wk 32 := by exact xl_in hinv_19 (by decide) hq (by decide) (by assumption)
        refine va_iald hx hb hK hP 2 0 rfl rfl o_5 dN_firstNearSide_42 ?_
        refine lv_isub hx hb dN_firstNearSide_43 ?_
        refine va_mmin hx hb (hml.trans hl.1.symm) hown (hts _ xk_492) (hts _ xk_493) (hts _ xk_50) (hts _ xk_494) (by decide) (by decide) (by decide) (by decide) dN_firstNearSide_44 ?_
        refine lv_istore (lv' := [(7, .int (if (w - (xf wk.toNatClampNeg)) < (xf wk.toNatClampNeg) then (w - (xf wk.toNatClampNeg)) else (xf wk.toNatClampNeg))), (6, .int wk), (5, .int (fN_space rf kind (2))), (4, .int (fN_space rf kind (3))), (0, .ref h0), (1, .int kind), (2, .int w), (3, .int h)]) hx hb dN_firstNearSide_47 hl (by decide) rfl (fun ls hl => ?_)
        refine lv_aload_n hx hb dN_firstNearSide_49 rfl (lv_at hl 4 rfl) ?_
        refine va_get (D := (dC, dI)) (ci := 0) (v := .ref qy) (C := xR_N) (T := xF_N) (N := 11) hx hb hts xi_N hown hK hP 0 rfl rfl 8 (by decide) (hts _ xk_122) (fun _ h9 => h9) hf8 dN_firstNearSide_50 ?_
        refine lv_iload hx hb dN_firstNearSide_53 (lv_at hl 1 rfl) ?_
        have o_7 : vp_in wk 32 := by exact xl_in hinv_19 (by decide) hq (by decide) (by assumption)
        refine va_iald hx hb hK hP 3 0 rfl rfl o_7 dN_firstNearSide_55 ?_
        refine lv_iload_n hx hb dN_firstNearSide_56 rfl (lv_at hl 7 rfl) ?_
        refine lv_aload_n hx hb dN_firstNearSide_57 rfl (lv_at hl 4 rfl) ?_
        refine va_get (D := (dC, dI)) (ci := 0) (v := .ref qy) (C := xR_N) (T := xF_N) (N := 11) hx hb hts xi_N hown hK hP 0 rfl rfl 8 (by decide) (hts _ xk_122) (fun _ h9 => h9) hf8 dN_firstNearSide_58 ?_
        refine lv_iload hx hb dN_firstNearSide_61 (lv_at hl 1 rfl) ?_
        have o_8 : vp_in wk 32 := by exact xl_in hinv_19 (by decide) hq (by decide) (by assumption)
        refine va_iald hx hb hK hP 3 0 rfl rfl o_8 dN_firstNearSide_63 ?_
        refine lv_isub hx hb dN_firstNearSide_64 ?_
        refine va_mmin hx hb (hml.trans hl.1.symm) hown (hts _ xk_492) (hts _ xk_493) (hts _ xk_50) (hts _ xk_494) (by decide) (by decide) (by decide) (by decide) dN_firstNearSide_65 ?_
        refine lv_istore (lv' := [(8, .int (if (h - (yf wk.toNatClampNeg)) < (yf wk.toNatClampNeg) then (h - (yf wk.toNatClampNeg)) else (yf wk.toNatClampNeg))), (7, .int (if (w - (xf wk.toNatClampNeg)) < (xf wk.toNatClampNeg) then (w - (xf wk.toNatClampNeg)) else (xf wk.toNatClampNeg))), (6, .int wk), (5, .int (fN_space rf kind (2))), (4, .int (fN_space rf kind (3))), (0, .ref h0), (1, .int kind), (2, .int w), (3, .int h)]) hx hb dN_firstNearSide_68 hl (by decide) rfl (fun ls hl => ?_)
        refine lv_iload hx hb dN_firstNearSide_70 (lv_at hl 1 rfl) ?_
        refine lv_iload hx hb dN_firstNearSide_72 (lv_at hl 4 rfl) ?_
        refine lv_icmp_lt (tgt := 84) hx hb dN_firstNearSide_74 (by decide) (fun c_10 => ?_) (fun c_10 => ?_)
        · refine lv_iload hx hb dN_firstNearSide_84 (lv_at hl 2 rfl) ?_
          have e_f : fN_firstNearSide rf xf yf qn kind w h = wk := hres_19.trans ((if_neg c_3).trans ((if_pos c_10).trans (rfl)))
          exact W.iret (v := wk) hx hb hr (fun t ht hW => ⟨by rw [e_f], ht⟩) (fun _ h => by cases h) dN_firstNearSide_86
        · refine lv_iload hx hb dN_firstNearSide_77 (lv_at hl 0 rfl) ?_
          refine lv_iload hx hb dN_firstNearSide_79 (lv_at hl 3 rfl) ?_
          refine lv_icmp_ge (tgt := 87) hx hb dN_firstNearSide_81 (by decide) (fun c_11 => ?_) (fun c_11 => ?_)
          · refine lv_iinc (v := wk + 1) (lv' := [(6, .int (wk + 1)), (8, .int (if (h - (yf wk.toNatClampNeg)) < (yf wk.toNatClampNeg) then (h - (yf wk.toNatClampNeg)) else (yf wk.toNatClampNeg))), (7, .int (if (w - (xf wk.toNatClampNeg)) < (xf wk.toNatClampNeg) then (w - (xf wk.toNatClampNeg)) else (xf wk.toNatClampNeg))), (5, .int (fN_space rf kind (2))), (4, .int (fN_space rf kind (3))), (0, .ref h0), (1, .int kind), (2, .int w), (3, .int h)]) hx hb dN_firstNearSide_87 hl (k := 2) rfl rfl (by decide) rfl (fun ls hl => ?_)
            refine lv_goto (tgt := 19) hx hb dN_firstNearSide_90 (by decide) ?_
            have v_inv : xl_c 0 32 n_19 (wk + 1) := xl_s3 hinv_19 (by decide) hq (by decide) c_3
            have v_res : fN_firstNearSide rf xf yf qn kind w h = kN_firstNearSide_19a rf xf yf qn kind w h n_19 (wk + 1) := hres_19.trans ((if_neg c_3).trans ((if_neg c_10).trans ((if_pos c_11).trans (rfl))))
            exact ih_19 (wk + 1) v_inv v_res ls (lv_sub hl [0, 3, 4, 5, 6, 7, 8] rfl)
          · refine lv_iload hx hb dN_firstNearSide_84 (lv_at hl 2 rfl) ?_
            have e_f : fN_firstNearSide rf xf yf qn kind w h = wk := hres_19.trans ((if_neg c_3).trans ((if_neg c_10).trans ((if_neg c_11).trans (rfl))))
            exact W.iret (v := wk) hx hb hr (fun t ht hW => ⟨by rw [e_f], ht⟩) (fun _ h => by cases h) dN_firstNearSide_86
  have v_inv : xl_c 0 32 33 (0 : Int32) := ⟨0, rfl, by omega, by omega, by omega⟩
  have v_res : fN_firstNearSide rf xf yf qn kind w h = kN_firstNearSide_19a rf xf yf qn kind w h 33 (0) := rfl
  exact lp_19 33 (0) v_inv v_res ls (lv_sub hl [0, 1, 2, 3, 4, 5, 6] rfl)
