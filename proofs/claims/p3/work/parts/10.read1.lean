theorem xp_ne0 {g : Int32} (h : 1 ≤ g) : ¬ g = 0 := fun q => absurd (q ▸ h) (by decide)
theorem xp_look {i len : Int32} (h0 : ¬ i < 0) (h1 : ¬ len ≤ i) (h2 : len ≤ 200) : vp_in i 200 := by
  rw [vp_in_iff]
  simp only [Int32.lt_iff_toInt_lt, Int32.le_iff_toInt_le] at h0 h1 h2
  have e0 : (0 : Int32).toInt = 0 := by decide
  have e2 : (200 : Int32).toInt = 200 := by decide
  omega
theorem xp_now {i len : Int32} (h0 : 0 ≤ i) (h2 : len ≤ 200) (h1 : ¬ len ≤ i) : vp_in i 200 := by
  rw [vp_in_iff]
  simp only [Int32.le_iff_toInt_le] at h0 h1 h2
  have e0 : (0 : Int32).toInt = 0 := by decide
  have e2 : (200 : Int32).toInt = 200 := by decide
  omega
def fT_isDigit (u : Int32) : Bool := if u < 48 then (false) else (if 57 < u then (false) else (true))
set_option maxHeartbeats 4000000 in
set_option maxRecDepth 100000 in
theorem cT_isDigit (l : Launch) {s0 : State} {dC : Nat → ClassId} {dI : Nat → Nat → Nat} {cI cC cL cO : ClassId} (E : xb_Env l s0 dC dI (xtys cI cC cL cO)) (u : Int32) : Met l yT_isDigit [.code yT_isDigit bT_isDigit 1 (some (.boolean))] ({ frames := 0, cells := 0, slots := 0, locals := 0 }) (va_Pc [.int u] (fun U => xb_At s0 U ∧ va_P (dC, dI) classes [] U.heap)) (xb_R (some (.int (xb_bi (fT_isDigit u))))) 0 0 (fun _ => False) := by
  refine Met.ofW (cc := bT_isDigit) (maxL := 1) (ret := (some (.boolean))) (by decide) rfl ?_
  intro p e s m args below meth c s₁ B hml hv
  obtain ⟨rfl, hAt, hP⟩ := hv
  have hx := B.exec
  have hb := B.bytes
  have hr := B.returns
  have hts := xb_hts E hAt ([.int u] : List Value).toArray
  have hown : s.vm.findClass "NailRules$Text" = some m.cls := findClass_of_methodNamed B.named
  have hlocks := B.notSynchronized
  have hK := xb_K E hAt
  have hl := lv_entry ([.int u]) (n := 1) (Nat.le_of_ble_eq_true rfl)
  rw [lg_entry_eq]
  generalize (lg_sl ([.int u]) ++ List.replicate (1 - (lg_sl ([.int u])).length) Slot.unset).toArray = ls at hl ⊢
  have hl : lv_has ls 1 [(0, .int u)] := hl
  refine lv_iload_n hx hb dT_isDigit_0 rfl (lv_at hl 0 rfl) ?_
  refine lv_bipush (v := 48) hx hb dT_isDigit_1 (by decide) ?_
  refine lv_icmp_lt (tgt := 16) hx hb dT_isDigit_3 (by decide) (fun c_1 => ?_) (fun c_1 => ?_)
  · refine lv_iconst (v := 0) hx hb dT_isDigit_16 (by decide) ?_
    have e_f : fT_isDigit u = false := (if_pos c_1).trans (rfl)
    exact W.zret (v := 0) hx hb hr (by decide) (fun t ht hW => ⟨by rw [e_f]; try rfl, ht⟩) (fun _ h => by cases h) dT_isDigit_17
  · refine lv_iload_n hx hb dT_isDigit_6 rfl (lv_at hl 0 rfl) ?_
    refine lv_bipush (v := 57) hx hb dT_isDigit_7 (by decide) ?_
    refine lv_icmp_gt (tgt := 16) hx hb dT_isDigit_9 (by decide) (fun c_2 => ?_) (fun c_2 => ?_)
    · refine lv_iconst (v := 0) hx hb dT_isDigit_16 (by decide) ?_
      have e_f : fT_isDigit u = false := (if_neg c_1).trans ((if_pos c_2).trans (rfl))
      exact W.zret (v := 0) hx hb hr (by decide) (fun t ht hW => ⟨by rw [e_f]; try rfl, ht⟩) (fun _ h => by cases h) dT_isDigit_17
    · refine lv_iconst (v := 1) hx hb dT_isDigit_12 (by decide) ?_
      refine lv_goto (tgt := 17) hx hb dT_isDigit_13 (by decide) ?_
      have e_f : fT_isDigit u = true := (if_neg c_1).trans ((if_neg c_2).trans (rfl))
      exact W.zret (v := 1) hx hb hr (by decide) (fun t ht hW => ⟨by rw [e_f]; try rfl, ht⟩) (fun _ h => by cases h) dT_isDigit_17

def fT_kindOf (u : Int32) : Int32 := if u = 98 then (2) else (if u = 100 then (3) else (if u = 110 then (0) else (if u = 115 then (1) else ((-1)))))
set_option maxHeartbeats 4000000 in
set_option maxRecDepth 100000 in
theorem cT_kindOf (l : Launch) {s0 : State} {dC : Nat → ClassId} {dI : Nat → Nat → Nat} {cI cC cL cO : ClassId} (E : xb_Env l s0 dC dI (xtys cI cC cL cO)) (u : Int32) : Met l yT_kindOf [.code yT_kindOf bT_kindOf 1 (some (.int))] ({ frames := 0, cells := 0, slots := 0, locals := 0 }) (va_Pc [.int u] (fun U => xb_At s0 U ∧ va_P (dC, dI) classes [] U.heap)) (xb_R (some (.int (fT_kindOf u)))) 0 0 (fun _ => False) := by
  refine Met.ofW (cc := bT_kindOf) (maxL := 1) (ret := (some (.int))) (by decide) rfl ?_
  intro p e s m args below meth c s₁ B hml hv
  obtain ⟨rfl, hAt, hP⟩ := hv
  have hx := B.exec
  have hb := B.bytes
  have hr := B.returns
  have hts := xb_hts E hAt ([.int u] : List Value).toArray
  have hown : s.vm.findClass "NailRules$Text" = some m.cls := findClass_of_methodNamed B.named
  have hlocks := B.notSynchronized
  have hK := xb_K E hAt
  have hl := lv_entry ([.int u]) (n := 1) (Nat.le_of_ble_eq_true rfl)
  rw [lg_entry_eq]
  generalize (lg_sl ([.int u]) ++ List.replicate (1 - (lg_sl ([.int u])).length) Slot.unset).toArray = ls at hl ⊢
  have hl : lv_has ls 1 [(0, .int u)] := hl
  refine lv_iload_n hx hb dT_kindOf_0 rfl (lv_at hl 0 rfl) ?_
  by_cases c_1 : u = 98
  · refine lv_lookup (off := 47) (tgt := 48) hx hb dT_kindOf_1 (by decide) (by rw [c_1]; decide) (by decide) ?_
    refine lv_iconst (v := 2) hx hb dT_kindOf_48 (by decide) ?_
    have e_f : fT_kindOf u = 2 := (if_pos c_1).trans (rfl)
    exact W.iret (v := 2) hx hb hr (fun t ht hW => ⟨by rw [e_f], ht⟩) (fun _ h => by cases h) dT_kindOf_49
  by_cases c_2 : u = 100
  · refine lv_lookup (off := 49) (tgt := 50) hx hb dT_kindOf_1 (by decide) (by rw [c_2]; decide) (by decide) ?_
    refine lv_iconst (v := 3) hx hb dT_kindOf_50 (by decide) ?_
    have e_f : fT_kindOf u = 3 := (if_neg c_1).trans ((if_pos c_2).trans (rfl))
    exact W.iret (v := 3) hx hb hr (fun t ht hW => ⟨by rw [e_f], ht⟩) (fun _ h => by cases h) dT_kindOf_51
  by_cases c_3 : u = 110
  · refine lv_lookup (off := 43) (tgt := 44) hx hb dT_kindOf_1 (by decide) (by rw [c_3]; decide) (by decide) ?_
    refine lv_iconst (v := 0) hx hb dT_kindOf_44 (by decide) ?_
    have e_f : fT_kindOf u = 0 := (if_neg c_1).trans ((if_neg c_2).trans ((if_pos c_3).trans (rfl)))
    exact W.iret (v := 0) hx hb hr (fun t ht hW => ⟨by rw [e_f], ht⟩) (fun _ h => by cases h) dT_kindOf_45
  by_cases c_4 : u = 115
  · refine lv_lookup (off := 45) (tgt := 46) hx hb dT_kindOf_1 (by decide) (by rw [c_4]; decide) (by decide) ?_
    refine lv_iconst (v := 1) hx hb dT_kindOf_46 (by decide) ?_
    have e_f : fT_kindOf u = 1 := (if_neg c_1).trans ((if_neg c_2).trans ((if_neg c_3).trans ((if_pos c_4).trans (rfl))))
    exact W.iret (v := 1) hx hb hr (fun t ht hW => ⟨by rw [e_f], ht⟩) (fun _ h => by cases h) dT_kindOf_47
  refine lv_lookup (off := 51) (tgt := 52) hx hb dT_kindOf_1 (by decide) (by refine (lv_osw c_1 (by decide)).trans ?_; refine (lv_osw c_2 (by decide)).trans ?_; refine (lv_osw c_3 (by decide)).trans ?_; refine (lv_osw c_4 (by decide)).trans ?_; rfl) (by decide) ?_
  refine lv_iconst (v := (-1)) hx hb dT_kindOf_52 (by decide) ?_
  have e_f : fT_kindOf u = (-1) := (if_neg c_1).trans ((if_neg c_2).trans ((if_neg c_3).trans ((if_neg c_4).trans (rfl))))
  exact W.iret (v := (-1)) hx hb hr (fun t ht hW => ⟨by rw [e_f], ht⟩) (fun _ h => by cases h) dT_kindOf_53

def fT_look (uf : Nat → Int32) (len : Int32) (i : Int32) : Int32 := if i < 0 then ((-1)) else (if len ≤ i then ((-1)) else (uf i.toNatClampNeg))
set_option maxHeartbeats 4000000 in
set_option maxRecDepth 100000 in
theorem cT_look (l : Launch) {s0 : State} {dC : Nat → ClassId} {dI : Nat → Nat → Nat} {cI cC cL cO : ClassId} (E : xb_Env l s0 dC dI (xtys cI cC cL cO)) (h0 : Nat) (fs : List Value) (ua : Nat) (uf : Nat → Int32) (len : Int32) (i : Int32) (hf0 : fs[0]? = some (.ref ua)) (hf1 : fs[1]? = some (.int len)) (hlen : len ≤ 200) : Met l yT_look [.code yT_look bT_look 2 (some (.int))] ({ frames := 0, cells := 0, slots := 0, locals := 0 }) (va_Pc [.ref h0, .int i] (fun U => xb_At s0 U ∧ va_P (dC, dI) classes [(h0, .inr (1, fs)), (ua, .inl (cC, 200, .inl uf))] U.heap)) (xb_R (some (.int (fT_look uf len i)))) 0 0 (fun _ => False) := by
  refine Met.ofW (cc := bT_look) (maxL := 2) (ret := (some (.int))) (by decide) rfl ?_
  intro p e s m args below meth c s₁ B hml hv
  obtain ⟨rfl, hAt, hP⟩ := hv
  have hx := B.exec
  have hb := B.bytes
  have hr := B.returns
  have hts := xb_hts E hAt ([.ref h0, .int i] : List Value).toArray
  have hown : s.vm.findClass "NailRules$Text" = some m.cls := findClass_of_methodNamed B.named
  have hlocks := B.notSynchronized
  have hK := xb_K E hAt
  have hl := lv_entry ([.ref h0, .int i]) (n := 2) (Nat.le_of_ble_eq_true rfl)
  rw [lg_entry_eq]
  generalize (lg_sl ([.ref h0, .int i]) ++ List.replicate (2 - (lg_sl ([.ref h0, .int i])).length) Slot.unset).toArray = ls at hl ⊢
  have hl : lv_has ls 2 [(0, .ref h0), (1, .int i)] := hl
  refine lv_iload_n hx hb dT_look_0 rfl (lv_at hl 1 rfl) ?_
  refine lv_if_lt (tgt := 21) hx hb dT_look_1 (by decide) (fun c_1 => ?_) (fun c_1 => ?_)
  · refine lv_iconst (v := (-1)) hx hb dT_look_21 (by decide) ?_
    have e_f : fT_look uf len i = (-1) := (if_pos c_1).trans (rfl)
    exact W.iret (v := (-1)) hx hb hr (fun t ht hW => ⟨by rw [e_f], ht⟩) (fun _ h => by cases h) dT_look_22
  · refine lv_iload_n hx hb dT_look_4 rfl (lv_at hl 1 rfl) ?_
    refine lv_aload_n hx hb dT_look_5 rfl (lv_at hl 0 rfl) ?_
    refine va_get (D := (dC, dI)) (ci := 1) (v := .int len) (C := xR_T) (T := xF_T) (N := 3) hx hb hts xi_T hown hK hP 0 rfl rfl 1 (by decide) (hts _ xk_77) (fun _ h9 => h9) hf1 dT_look_6 ?_
    refine lv_icmp_ge (tgt := 21) hx hb dT_look_9 (by decide) (fun c_2 => ?_) (fun c_2 => ?_)
    · refine lv_iconst (v := (-1)) hx hb dT_look_21 (by decide) ?_
      have e_f : fT_look uf len i = (-1) := (if_neg c_1).trans ((if_pos c_2).trans (rfl))
      exact W.iret (v := (-1)) hx hb hr (fun t ht hW => ⟨by rw [e_f], ht⟩) (fun _ h => by cases h) dT_look_22
    · refine lv_aload_n hx hb dT_look_12 rfl (lv_at hl 0 rfl) ?_
      refine va_get (D := (dC, dI)) (ci := 1) (v := .ref ua) (C := xR_T) (T := xF_T) (N := 3) hx hb hts xi_T hown hK hP 0 rfl rfl 0 (by decide) (hts _ xk_76) (fun _ h9 => h9) hf0 dT_look_13 ?_
      refine lv_iload_n hx hb dT_look_16 rfl (lv_at hl 1 rfl) ?_
      have o_3 : vp_in i 200 := by exact xp_look (by assumption) (by assumption) hlen
      refine va_cald hx hb hK hP 1 1 rfl rfl o_3 dT_look_17 ?_
      refine lv_goto (tgt := 22) hx hb dT_look_18 (by decide) ?_
      have e_f : fT_look uf len i = uf i.toNatClampNeg := (if_neg c_1).trans ((if_neg c_2).trans (rfl))
      exact W.iret (v := (uf i.toNatClampNeg)) hx hb hr (fun t ht hW => ⟨by rw [e_f], ht⟩) (fun _ h => by cases h) dT_look_22

def fT_ended (len : Int32) (nx : Int32) : Bool := if nx < len then (false) else (true)
set_option maxHeartbeats 4000000 in
set_option maxRecDepth 100000 in
theorem cT_ended (l : Launch) {s0 : State} {dC : Nat → ClassId} {dI : Nat → Nat → Nat} {cI cC cL cO : ClassId} (E : xb_Env l s0 dC dI (xtys cI cC cL cO)) (h0 : Nat) (fs : List Value) (len : Int32) (nx : Int32) (hf1 : fs[1]? = some (.int len)) (hf2 : fs[2]? = some (.int nx)) : Met l yT_ended [.code yT_ended bT_ended 1 (some (.boolean))] ({ frames := 0, cells := 0, slots := 0, locals := 0 }) (va_Pc [.ref h0] (fun U => xb_At s0 U ∧ va_P (dC, dI) classes [(h0, .inr (1, fs))] U.heap)) (xb_R (some (.int (xb_bi (fT_ended len nx))))) 0 0 (fun _ => False) := by
  refine Met.ofW (cc := bT_ended) (maxL := 1) (ret := (some (.boolean))) (by decide) rfl ?_
  intro p e s m args below meth c s₁ B hml hv
  obtain ⟨rfl, hAt, hP⟩ := hv
  have hx := B.exec
  have hb := B.bytes
  have hr := B.returns
  have hts := xb_hts E hAt ([.ref h0] : List Value).toArray
  have hown : s.vm.findClass "NailRules$Text" = some m.cls := findClass_of_methodNamed B.named
  have hlocks := B.notSynchronized
  have hK := xb_K E hAt
  have hl := lv_entry ([.ref h0]) (n := 1) (Nat.le_of_ble_eq_true rfl)
  rw [lg_entry_eq]
  generalize (lg_sl ([.ref h0]) ++ List.replicate (1 - (lg_sl ([.ref h0])).length) Slot.unset).toArray = ls at hl ⊢
  have hl : lv_has ls 1 [(0, .ref h0)] := hl
  refine lv_aload_n hx hb dT_ended_0 rfl (lv_at hl 0 rfl) ?_
  refine va_get (D := (dC, dI)) (ci := 1) (v := .int nx) (C := xR_T) (T := xF_T) (N := 3) hx hb hts xi_T hown hK hP 0 rfl rfl 2 (by decide) (hts _ xk_78) (fun _ h9 => h9) hf2 dT_ended_1 ?_
  refine lv_aload_n hx hb dT_ended_4 rfl (lv_at hl 0 rfl) ?_
  refine va_get (D := (dC, dI)) (ci := 1) (v := .int len) (C := xR_T) (T := xF_T) (N := 3) hx hb hts xi_T hown hK hP 0 rfl rfl 1 (by decide) (hts _ xk_77) (fun _ h9 => h9) hf1 dT_ended_5 ?_
  refine lv_icmp_lt (tgt := 15) hx hb dT_ended_8 (by decide) (fun c_1 => ?_) (fun c_1 => ?_)
  · refine lv_iconst (v := 0) hx hb dT_ended_15 (by decide) ?_
    have e_f : fT_ended len nx = false := (if_pos c_1).trans (rfl)
    exact W.zret (v := 0) hx hb hr (by decide) (fun t ht hW => ⟨by rw [e_f]; try rfl, ht⟩) (fun _ h => by cases h) dT_ended_16
  · refine lv_iconst (v := 1) hx hb dT_ended_11 (by decide) ?_
    refine lv_goto (tgt := 16) hx hb dT_ended_12 (by decide) ?_
    have e_f : fT_ended len nx = true := (if_neg c_1).trans (rfl)
    exact W.zret (v := 1) hx hb hr (by decide) (fun t ht hW => ⟨by rw [e_f]; try rfl, ht⟩) (fun _ h => by cases h) dT_ended_16

def fT_fault (nx : Int32) : Int32 := (-1) - nx
set_option maxHeartbeats 4000000 in
set_option maxRecDepth 100000 in
theorem cT_fault (l : Launch) {s0 : State} {dC : Nat → ClassId} {dI : Nat → Nat → Nat} {cI cC cL cO : ClassId} (E : xb_Env l s0 dC dI (xtys cI cC cL cO)) (h0 : Nat) (fs : List Value) (nx : Int32) (hf2 : fs[2]? = some (.int nx)) : Met l yT_fault [.code yT_fault bT_fault 1 (some (.int))] ({ frames := 0, cells := 0, slots := 0, locals := 0 }) (va_Pc [.ref h0] (fun U => xb_At s0 U ∧ va_P (dC, dI) classes [(h0, .inr (1, fs))] U.heap)) (xb_R (some (.int (fT_fault nx)))) 0 0 (fun _ => False) := by
  refine Met.ofW (cc := bT_fault) (maxL := 1) (ret := (some (.int))) (by decide) rfl ?_
  intro p e s m args below meth c s₁ B hml hv
  obtain ⟨rfl, hAt, hP⟩ := hv
  have hx := B.exec
  have hb := B.bytes
  have hr := B.returns
  have hts := xb_hts E hAt ([.ref h0] : List Value).toArray
  have hown : s.vm.findClass "NailRules$Text" = some m.cls := findClass_of_methodNamed B.named
  have hlocks := B.notSynchronized
  have hK := xb_K E hAt
  have hl := lv_entry ([.ref h0]) (n := 1) (Nat.le_of_ble_eq_true rfl)
  rw [lg_entry_eq]
  generalize (lg_sl ([.ref h0]) ++ List.replicate (1 - (lg_sl ([.ref h0])).length) Slot.unset).toArray = ls at hl ⊢
  have hl : lv_has ls 1 [(0, .ref h0)] := hl
  refine lv_iconst (v := (-1)) hx hb dT_fault_0 (by decide) ?_
  refine lv_aload_n hx hb dT_fault_1 rfl (lv_at hl 0 rfl) ?_
  refine va_get (D := (dC, dI)) (ci := 1) (v := .int nx) (C := xR_T) (T := xF_T) (N := 3) hx hb hts xi_T hown hK hP 0 rfl rfl 2 (by decide) (hts _ xk_78) (fun _ h9 => h9) hf2 dT_fault_2 ?_
  refine lv_isub hx hb dT_fault_5 ?_
  have e_f : fT_fault nx = (-1) - nx := rfl
  exact W.iret (v := ((-1) - nx)) hx hb hr (fun t ht hW => ⟨by rw [e_f], ht⟩) (fun _ h => by cases h) dT_fault_6

def fN_told (rf : Nat → Int32) (kind : Int32) (what : Int32) : Int32 := rf ((kind * 7) + what).toNatClampNeg
set_option maxHeartbeats 4000000 in
set_option maxRecDepth 100000 in
theorem cN_told (l : Launch) {s0 : State} {dC : Nat → ClassId} {dI : Nat → Nat → Nat} {cI cC cL cO : ClassId} (E : xb_Env l s0 dC dI (xtys cI cC cL cO)) (h0 : Nat) (fs : List Value) (ra : Nat) (rf : Nat → Int32) (kind : Int32) (what : Int32) (hf1 : fs[1]? = some (.ref ra)) (hk : vp_in (kind * 7 + what) 28) : Met l yN_told [.code yN_told bN_told 3 (some (.int))] ({ frames := 0, cells := 0, slots := 0, locals := 0 }) (va_Pc [.ref h0, .int kind, .int what] (fun U => xb_At s0 U ∧ va_P (dC, dI) classes [(h0, .inr (0, fs)), (ra, .inl (cI, 28, .inl rf))] U.heap)) (xb_R (some (.int (fN_told rf kind what)))) 0 0 (fun _ => False) := by
  refine Met.ofW (cc := bN_told) (maxL := 3) (ret := (some (.int))) (by decide) rfl ?_
  intro p e s m args below meth c s₁ B hml hv
  obtain ⟨rfl, hAt, hP⟩ := hv
  have hx := B.exec
  have hb := B.bytes
  have hr := B.returns
  have hts := xb_hts E hAt ([.ref h0, .int kind, .int what] : List Value).toArray
  have hown : s.vm.findClass "NailRules" = some m.cls := findClass_of_methodNamed B.named
  have hlocks := B.notSynchronized
  have hK := xb_K E hAt
  have hl := lv_entry ([.ref h0, .int kind, .int what]) (n := 3) (Nat.le_of_ble_eq_true rfl)
  rw [lg_entry_eq]
  generalize (lg_sl ([.ref h0, .int kind, .int what]) ++ List.replicate (3 - (lg_sl ([.ref h0, .int kind, .int what])).length) Slot.unset).toArray = ls at hl ⊢
  have hl : lv_has ls 3 [(0, .ref h0), (1, .int kind), (2, .int what)] := hl
  refine lv_aload_n hx hb dN_told_0 rfl (lv_at hl 0 rfl) ?_
  refine va_get (D := (dC, dI)) (ci := 0) (v := .ref ra) (C := xR_N) (T := xF_N) (N := 11) hx hb hts xi_N hown hK hP 0 rfl rfl 1 (by decide) (hts _ xk_115) (fun _ h9 => h9) hf1 dN_told_1 ?_
  refine lv_iload_n hx hb dN_told_4 rfl (lv_at hl 1 rfl) ?_
  refine lv_bipush (v := 7) hx hb dN_told_5 (by decide) ?_
  refine lv_imul hx hb dN_told_7 ?_
  refine lv_iload_n hx hb dN_told_8 rfl (lv_at hl 2 rfl) ?_
  refine lv_iadd hx hb dN_told_9 ?_
  have o_1 : vp_in ((kind * 7) + what) 28 := by assumption
  refine va_iald hx hb hK hP 1 0 rfl rfl o_1 dN_told_10 ?_
  have e_f : fN_told rf kind what = rf ((kind * 7) + what).toNatClampNeg := rfl
  exact W.iret (v := (rf ((kind * 7) + what).toNatClampNeg)) hx hb hr (fun t ht hW => ⟨by rw [e_f], ht⟩) (fun _ h => by cases h) dN_told_11

def fN_space (rf : Nat → Int32) (kind : Int32) (what : Int32) : Int32 := (fN_told rf kind what) * (fN_told rf kind (0))
set_option maxHeartbeats 4000000 in
set_option maxRecDepth 100000 in
theorem cN_space (l : Launch) {s0 : State} {dC : Nat → ClassId} {dI : Nat → Nat → Nat} {cI cC cL cO : ClassId} (E : xb_Env l s0 dC dI (xtys cI cC cL cO)) (h0 : Nat) (fs : List Value) (ra : Nat) (rf : Nat → Int32) (kind : Int32) (what : Int32) (hf1 : fs[1]? = some (.ref ra)) (hk : vp_in (kind * 7 + what) 28) (hz : vp_in (kind * 7 + 0) 28) : Met l yN_space [.code yN_space bN_space 3 (some (.int))] ({ frames := 1, cells := 0, slots := 0, locals := 22 }) (va_Pc [.ref h0, .int kind, .int what] (fun U => xb_At s0 U ∧ va_P (dC, dI) classes [(h0, .inr (0, fs)), (ra, .inl (cI, 28, .inl rf))] U.heap)) (xb_R (some (.int (fN_space rf kind what)))) 0 0 (fun _ => False) := by
  refine Met.ofW (cc := bN_space) (maxL := 3) (ret := (some (.int))) (by decide) rfl ?_
  intro p e s m args below meth c s₁ B hml hv
  obtain ⟨rfl, hAt, hP⟩ := hv
  have hx := B.exec
  have hb := B.bytes
  have hr := B.returns
  have hts := xb_hts E hAt ([.ref h0, .int kind, .int what] : List Value).toArray
  have hown : s.vm.findClass "NailRules" = some m.cls := findClass_of_methodNamed B.named
  have hlocks := B.notSynchronized
  have hK := xb_K E hAt
  have hl := lv_entry ([.ref h0, .int kind, .int what]) (n := 3) (Nat.le_of_ble_eq_true rfl)
  rw [lg_entry_eq]
  generalize (lg_sl ([.ref h0, .int kind, .int what]) ++ List.replicate (3 - (lg_sl ([.ref h0, .int kind, .int what])).length) Slot.unset).toArray = ls at hl ⊢
  have hl : lv_has ls 3 [(0, .ref h0), (1, .int kind), (2, .int what)] := hl
  refine lv_aload_n hx hb dN_space_0 rfl (lv_at hl 0 rfl) ?_
  refine lv_iload_n hx hb dN_space_1 rfl (lv_at hl 1 rfl) ?_
  refine lv_iload_n hx hb dN_space_2 rfl (lv_at hl 2 rfl) ?_
  refine xb_rd (W.runV (C := "NailRules") (As := [.int kind, .int what]) (rest := []) ⟨hx, hb, hml, hown, hts⟩ (cN_told l E h0 fs ra rf kind what hf1 (by assumption)) (cwV 2 hts (xb_gi (List.forall_mem_cons.mpr ⟨xk_358, List.forall_mem_cons.mpr ⟨xk_360, List.forall_mem_cons.mpr ⟨xk_14, List.forall_mem_cons.mpr ⟨xk_40, List.forall_mem_cons.mpr ⟨xk_361, fun _ h => absurd h List.not_mem_nil⟩⟩⟩⟩⟩)) rfl rfl rfl (by decide +kernel) ⟨Nat.le_of_ble_eq_true rfl, Nat.le_of_ble_eq_true rfl⟩) ⟨fun _ _ _ _ q => q, va_recv hK hP (ci := 0) (q0 := 0) rfl rfl, fun U hU hW => ⟨rfl, xb_at0 hAt hU hW, by rw [hU]; exact hP.sub (ws' := [(h0, .inr (0, fs)), (ra, .inl (cI, 28, .inl rf))]) [0, 1] rfl⟩⟩ rfl rfl hl.1 rfl (lv_room (Nat.le_of_ble_eq_true rfl)) dN_space_3 ⟨Nat.zero_le _, Nat.zero_le _⟩) ?_
  refine lv_aload_n hx hb dN_space_6 rfl (lv_at hl 0 rfl) ?_
  refine lv_iload_n hx hb dN_space_7 rfl (lv_at hl 1 rfl) ?_
  refine lv_iconst (v := 0) hx hb dN_space_8 (by decide) ?_
  refine xb_rd (W.runV (C := "NailRules") (As := [.int kind, .int 0]) (rest := [.int (fN_told rf kind what)]) ⟨hx, hb, hml, hown, hts⟩ (cN_told l E h0 fs ra rf kind 0 hf1 (by assumption)) (cwV 2 hts (xb_gi (List.forall_mem_cons.mpr ⟨xk_358, List.forall_mem_cons.mpr ⟨xk_360, List.forall_mem_cons.mpr ⟨xk_14, List.forall_mem_cons.mpr ⟨xk_40, List.forall_mem_cons.mpr ⟨xk_361, fun _ h => absurd h List.not_mem_nil⟩⟩⟩⟩⟩)) rfl rfl rfl (by decide +kernel) ⟨Nat.le_of_ble_eq_true rfl, Nat.le_of_ble_eq_true rfl⟩) ⟨fun _ _ _ _ q => q, va_recv hK hP (ci := 0) (q0 := 0) rfl rfl, fun U hU hW => ⟨rfl, xb_at0 hAt hU hW, by rw [hU]; exact hP.sub (ws' := [(h0, .inr (0, fs)), (ra, .inl (cI, 28, .inl rf))]) [0, 1] rfl⟩⟩ rfl rfl hl.1 rfl (lv_room (Nat.le_of_ble_eq_true rfl)) dN_space_9 ⟨Nat.zero_le _, Nat.zero_le _⟩) ?_
  refine lv_imul hx hb dN_space_12 ?_
  have e_f : fN_space rf kind what = (fN_told rf kind what) * (fN_told rf kind (0)) := rfl
  exact W.iret (v := ((fN_told rf kind what) * (fN_told rf kind (0)))) hx hb hr (fun t ht hW => ⟨by rw [e_f], ht⟩) (fun _ h => by cases h) dN_space_13

def fN_formula (rf : Nat → Int32) (which : Int32) (kind : Int32) (a : Int32) (b : Int32) : Int64 := if which = 0 then ((((fN_told rf kind (1)).toInt64) * a.toInt64) * ((fN_told rf kind (0)).toInt64)) else (if which = 1 then ((((fN_told rf kind (1)).toInt64) * b.toInt64) * ((fN_told rf kind (0)).toInt64)) else (if which = 2 then (((((fN_told rf kind (1)).toInt64) * ((a + b).toInt64)) * ((fN_told rf kind (0)).toInt64)) / 2) else (((((fN_told rf kind (1)).toInt64) * ((fN_told rf kind (0)).toInt64)) * ((fN_told rf kind (0)).toInt64)) * 4)))
set_option maxHeartbeats 4000000 in
set_option maxRecDepth 100000 in
theorem cN_formula (l : Launch) {s0 : State} {dC : Nat → ClassId} {dI : Nat → Nat → Nat} {cI cC cL cO : ClassId} (E : xb_Env l s0 dC dI (xtys cI cC cL cO)) (h0 : Nat) (fs : List Value) (ra : Nat) (rf : Nat → Int32) (which : Int32) (kind : Int32) (a : Int32) (b : Int32) (hf1 : fs[1]? = some (.ref ra)) (hz : vp_in (kind * 7 + 0) 28) (ho : vp_in (kind * 7 + 1) 28) : Met l yN_formula [.code yN_formula bN_formula 9 (some (.long))] ({ frames := 1, cells := 0, slots := 0, locals := 22 }) (va_Pc [.ref h0, .int which, .int kind, .int a, .int b] (fun U => xb_At s0 U ∧ va_P (dC, dI) classes [(h0, .inr (0, fs)), (ra, .inl (cI, 28, .inl rf))] U.heap)) (xb_R (some (.long (fN_formula rf which kind a b)))) 0 0 (fun _ => False) := by
  refine Met.ofW (cc := bN_formula) (maxL := 9) (ret := (some (.long))) (by decide) rfl ?_
  intro p e s m args below meth c s₁ B hml hv
  obtain ⟨rfl, hAt, hP⟩ := hv
  have hx := B.exec
  have hb := B.bytes
  have hr := B.returns
  have hts := xb_hts E hAt ([.ref h0, .int which, .int kind, .int a, .int b] : List Value).toArray
  have hown : s.vm.findClass "NailRules" = some m.cls := findClass_of_methodNamed B.named
  have hlocks := B.notSynchronized
  have hK := xb_K E hAt
  have hl := lv_entry ([.ref h0, .int which, .int kind, .int a, .int b]) (n := 9) (Nat.le_of_ble_eq_true rfl)
  rw [lg_entry_eq]
  generalize (lg_sl ([.ref h0, .int which, .int kind, .int a, .int b]) ++ List.replicate (9 - (lg_sl ([.ref h0, .int which, .int kind, .int a, .int b])).length) Slot.unset).toArray = ls at hl ⊢
  have hl : lv_has ls 9 [(0, .ref h0), (1, .int which), (2, .int kind), (3, .int a), (4, .int b)] := hl
  refine lv_aload_n hx hb dN_formula_0 rfl (lv_at hl 0 rfl) ?_
  refine lv_iload_n hx hb dN_formula_1 rfl (lv_at hl 2 rfl) ?_
  refine lv_iconst (v := 0) hx hb dN_formula_2 (by decide) ?_
  refine xb_rd (W.runV (C := "NailRules") (As := [.int kind, .int 0]) (rest := []) ⟨hx, hb, hml, hown, hts⟩ (cN_told l E h0 fs ra rf kind 0 hf1 (by assumption)) (cwV 2 hts (xb_gi (List.forall_mem_cons.mpr ⟨xk_358, List.forall_mem_cons.mpr ⟨xk_360, List.forall_mem_cons.mpr ⟨xk_14, List.forall_mem_cons.mpr ⟨xk_40, List.forall_mem_cons.mpr ⟨xk_361, fun _ h => absurd h List.not_mem_nil⟩⟩⟩⟩⟩)) rfl rfl rfl (by decide +kernel) ⟨Nat.le_of_ble_eq_true rfl, Nat.le_of_ble_eq_true rfl⟩) ⟨fun _ _ _ _ q => q, va_recv hK hP (ci := 0) (q0 := 0) rfl rfl, fun U hU hW => ⟨rfl, xb_at0 hAt hU hW, by rw [hU]; exact hP.sub (ws' := [(h0, .inr (0, fs)), (ra, .inl (cI, 28, .inl rf))]) [0, 1] rfl⟩⟩ rfl rfl hl.1 rfl (lv_room (Nat.le_of_ble_eq_true rfl)) dN_formula_3 ⟨Nat.zero_le _, Nat.zero_le _⟩) ?_
  refine lv_i2l hx hb dN_formula_6 rfl ?_
  refine lv_lstore (lv' := [(5, .long ((fN_told rf kind (0)).toInt64)), (0, .ref h0), (1, .int which), (2, .int kind), (3, .int a), (4, .int b)]) hx hb dN_formula_7 hl (by decide) rfl (fun ls hl => ?_)
  refine lv_aload_n hx hb dN_formula_9 rfl (lv_at hl 1 rfl) ?_
  refine lv_iload_n hx hb dN_formula_10 rfl (lv_at hl 3 rfl) ?_
  refine lv_iconst (v := 1) hx hb dN_formula_11 (by decide) ?_
  refine xb_rd (W.runV (C := "NailRules") (As := [.int kind, .int 1]) (rest := []) ⟨hx, hb, hml, hown, hts⟩ (cN_told l E h0 fs ra rf kind 1 hf1 (by assumption)) (cwV 2 hts (xb_gi (List.forall_mem_cons.mpr ⟨xk_358, List.forall_mem_cons.mpr ⟨xk_360, List.forall_mem_cons.mpr ⟨xk_14, List.forall_mem_cons.mpr ⟨xk_40, List.forall_mem_cons.mpr ⟨xk_361, fun _ h => absurd h List.not_mem_nil⟩⟩⟩⟩⟩)) rfl rfl rfl (by decide +kernel) ⟨Nat.le_of_ble_eq_true rfl, Nat.le_of_ble_eq_true rfl⟩) ⟨fun _ _ _ _ q => q, va_recv hK hP (ci := 0) (q0 := 0) rfl rfl, fun U hU hW => ⟨rfl, xb_at0 hAt hU hW, by rw [hU]; exact hP.sub (ws' := [(h0, .inr (0, fs)), (ra, .inl (cI, 28, .inl rf))]) [0, 1] rfl⟩⟩ rfl rfl hl.1 rfl (lv_room (Nat.le_of_ble_eq_true rfl)) dN_formula_12 ⟨Nat.zero_le _, Nat.zero_le _⟩) ?_
  refine lv_i2l hx hb dN_formula_15 rfl ?_
  refine lv_lstore (lv' := [(7, .long ((fN_told rf kind (1)).toInt64)), (5, .long ((fN_told rf kind (0)).toInt64)), (0, .ref h0), (1, .int which), (2, .int kind), (3, .int a), (4, .int b)]) hx hb dN_formula_16 hl (by decide) rfl (fun ls hl => ?_)
  refine lv_iload_n hx hb dN_formula_18 rfl (lv_at hl 3 rfl) ?_
  by_cases c_3 : which = 0
  · refine lv_tableIn (off := 25) (tgt := 44) hx hb dN_formula_19 (by rw [c_3]; decide) (by rw [c_3]; decide) (by rw [c_3]; rfl) (by decide) ?_
    refine lv_lload hx hb dN_formula_44 (lv_at hl 0 rfl) ?_
    refine lv_iload_n hx hb dN_formula_46 rfl (lv_at hl 5 rfl) ?_
    refine lv_i2l hx hb dN_formula_47 rfl ?_
    refine lv_lmul hx hb dN_formula_48 ?_
    refine lv_lload hx hb dN_formula_49 (lv_at hl 1 rfl) ?_
    refine lv_lmul hx hb dN_formula_51 ?_
    have e_f : fN_formula rf which kind a b = (((fN_told rf kind (1)).toInt64) * a.toInt64) * ((fN_told rf kind (0)).toInt64) := (if_pos c_3).trans (rfl)
    exact W.lret (v := ((((fN_told rf kind (1)).toInt64) * a.toInt64) * ((fN_told rf kind (0)).toInt64))) hx hb hr (fun t ht hW => ⟨by rw [e_f], ht⟩) (fun _ h => by cases h) dN_formula_52
  by_cases c_4 : which = 1
  · refine lv_tableIn (off := 34) (tgt := 53) hx hb dN_formula_19 (by rw [c_4]; decide) (by rw [c_4]; decide) (by rw [c_4]; rfl) (by decide) ?_
    refine lv_lload hx hb dN_formula_53 (lv_at hl 0 rfl) ?_
    refine lv_iload hx hb dN_formula_55 (lv_at hl 6 rfl) ?_
    refine lv_i2l hx hb dN_formula_57 rfl ?_
    refine lv_lmul hx hb dN_formula_58 ?_
    refine lv_lload hx hb dN_formula_59 (lv_at hl 1 rfl) ?_
    refine lv_lmul hx hb dN_formula_61 ?_
    have e_f : fN_formula rf which kind a b = (((fN_told rf kind (1)).toInt64) * b.toInt64) * ((fN_told rf kind (0)).toInt64) := (if_neg c_3).trans ((if_pos c_4).trans (rfl))
    exact W.lret (v := ((((fN_told rf kind (1)).toInt64) * b.toInt64) * ((fN_told rf kind (0)).toInt64))) hx hb hr (fun t ht hW => ⟨by rw [e_f], ht⟩) (fun _ h => by cases h) dN_formula_62
  by_cases c_5 : which = 2
  · refine lv_tableIn (off := 44) (tgt := 63) hx hb dN_formula_19 (by rw [c_5]; decide) (by rw [c_5]; decide) (by rw [c_5]; rfl) (by decide) ?_
    refine lv_lload hx hb dN_formula_63 (lv_at hl 0 rfl) ?_
    refine lv_iload_n hx hb dN_formula_65 rfl (lv_at hl 5 rfl) ?_
    refine lv_iload hx hb dN_formula_66 (lv_at hl 6 rfl) ?_
    refine lv_iadd hx hb dN_formula_68 ?_
    refine lv_i2l hx hb dN_formula_69 rfl ?_
    refine lv_lmul hx hb dN_formula_70 ?_
    refine lv_lload hx hb dN_formula_71 (lv_at hl 1 rfl) ?_
    refine lv_lmul hx hb dN_formula_73 ?_
    refine lv_ldc2 (v := 2) hx hb hown (hts _ xk_407) dN_formula_74 ?_
    refine lv_ldiv hx hb dN_formula_77 (by decide) ?_
    have e_f : fN_formula rf which kind a b = ((((fN_told rf kind (1)).toInt64) * ((a + b).toInt64)) * ((fN_told rf kind (0)).toInt64)) / 2 := (if_neg c_3).trans ((if_neg c_4).trans ((if_pos c_5).trans (rfl)))
    exact W.lret (v := (((((fN_told rf kind (1)).toInt64) * ((a + b).toInt64)) * ((fN_told rf kind (0)).toInt64)) / 2)) hx hb hr (fun t ht hW => ⟨by rw [e_f], ht⟩) (fun _ h => by cases h) dN_formula_78
  refine lv_tableOut (tgt := 79) hx hb dN_formula_19 (by have q0 := lv_neT c_3 (a := 0) (by decide); have q1 := lv_neT c_4 (a := 1) (by decide); have q2 := lv_neT c_5 (a := 2) (by decide); omega) (by decide) ?_
  refine lv_lload hx hb dN_formula_79 (lv_at hl 0 rfl) ?_
  refine lv_lload hx hb dN_formula_81 (lv_at hl 1 rfl) ?_
  refine lv_lmul hx hb dN_formula_83 ?_
  refine lv_lload hx hb dN_formula_84 (lv_at hl 1 rfl) ?_
  refine lv_lmul hx hb dN_formula_86 ?_
  refine lv_ldc2 (v := 4) hx hb hown (hts _ xk_408) dN_formula_87 ?_
  refine lv_lmul hx hb dN_formula_90 ?_
  have e_f : fN_formula rf which kind a b = ((((fN_told rf kind (1)).toInt64) * ((fN_told rf kind (0)).toInt64)) * ((fN_told rf kind (0)).toInt64)) * 4 := (if_neg c_3).trans ((if_neg c_4).trans ((if_neg c_5).trans (rfl)))
  exact W.lret (v := (((((fN_told rf kind (1)).toInt64) * ((fN_told rf kind (0)).toInt64)) * ((fN_told rf kind (0)).toInt64)) * 4)) hx hb hr (fun t ht hW => ⟨by rw [e_f], ht⟩) (fun _ h => by cases h) dN_formula_91

def fN_heldByRow (less : Int32) (n : Int32) (one : Int64) : Int64 := ((n.toInt64 * one) * ((if 50 < (100 - (less * (n - 1))) then (100 - (less * (n - 1))) else 50).toInt64)) / 100
set_option maxHeartbeats 4000000 in
set_option maxRecDepth 100000 in
theorem cN_heldByRow (l : Launch) {s0 : State} {dC : Nat → ClassId} {dI : Nat → Nat → Nat} {cI cC cL cO : ClassId} (E : xb_Env l s0 dC dI (xtys cI cC cL cO)) (h0 : Nat) (fs : List Value) (less : Int32) (n : Int32) (one : Int64) (hf3 : fs[3]? = some (.int less)) : Met l yN_heldByRow [.code yN_heldByRow bN_heldByRow 5 (some (.long))] ({ frames := 1, cells := 0, slots := 0, locals := 13 }) (va_Pc [.ref h0, .int n, .long one] (fun U => xb_At s0 U ∧ va_P (dC, dI) classes [(h0, .inr (0, fs))] U.heap)) (xb_R (some (.long (fN_heldByRow less n one)))) 0 0 (fun _ => False) := by
  refine Met.ofW (cc := bN_heldByRow) (maxL := 5) (ret := (some (.long))) (by decide) rfl ?_
  intro p e s m args below meth c s₁ B hml hv
  obtain ⟨rfl, hAt, hP⟩ := hv
  have hx := B.exec
  have hb := B.bytes
  have hr := B.returns
  have hts := xb_hts E hAt ([.ref h0, .int n, .long one] : List Value).toArray
  have hown : s.vm.findClass "NailRules" = some m.cls := findClass_of_methodNamed B.named
  have hlocks := B.notSynchronized
  have hK := xb_K E hAt
  have hl := lv_entry ([.ref h0, .int n, .long one]) (n := 5) (Nat.le_of_ble_eq_true rfl)
  rw [lg_entry_eq]
  generalize (lg_sl ([.ref h0, .int n, .long one]) ++ List.replicate (5 - (lg_sl ([.ref h0, .int n, .long one])).length) Slot.unset).toArray = ls at hl ⊢
  have hl : lv_has ls 5 [(0, .ref h0), (1, .int n), (2, .long one)] := hl
  refine lv_bipush (v := 50) hx hb dN_heldByRow_0 (by decide) ?_
  refine lv_bipush (v := 100) hx hb dN_heldByRow_2 (by decide) ?_
  refine lv_aload_n hx hb dN_heldByRow_4 rfl (lv_at hl 0 rfl) ?_
  refine va_get (D := (dC, dI)) (ci := 0) (v := .int less) (C := xR_N) (T := xF_N) (N := 11) hx hb hts xi_N hown hK hP 0 rfl rfl 3 (by decide) (hts _ xk_117) (fun _ h9 => h9) hf3 dN_heldByRow_5 ?_
  refine lv_iload_n hx hb dN_heldByRow_8 rfl (lv_at hl 1 rfl) ?_
  refine lv_iconst (v := 1) hx hb dN_heldByRow_9 (by decide) ?_
  refine lv_isub hx hb dN_heldByRow_10 ?_
  refine lv_imul hx hb dN_heldByRow_11 ?_
  refine lv_isub hx hb dN_heldByRow_12 ?_
  refine va_mmax hx hb (hml.trans hl.1.symm) hown (hts _ xk_422) (hts _ xk_254) (hts _ xk_50) (hts _ xk_255) (by decide) (by decide) (by decide) (by decide) dN_heldByRow_13 ?_
  refine lv_istore (lv' := [(4, .int (if 50 < (100 - (less * (n - 1))) then (100 - (less * (n - 1))) else 50)), (0, .ref h0), (1, .int n), (2, .long one)]) hx hb dN_heldByRow_16 hl (by decide) rfl (fun ls hl => ?_)
  refine lv_iload_n hx hb dN_heldByRow_18 rfl (lv_at hl 2 rfl) ?_
  refine lv_i2l hx hb dN_heldByRow_19 rfl ?_
  refine lv_lload_n hx hb dN_heldByRow_20 rfl (lv_at hl 3 rfl) ?_
  refine lv_lmul hx hb dN_heldByRow_21 ?_
  refine lv_iload hx hb dN_heldByRow_22 (lv_at hl 0 rfl) ?_
  refine lv_i2l hx hb dN_heldByRow_24 rfl ?_
  refine lv_lmul hx hb dN_heldByRow_25 ?_
  refine lv_ldc2 (v := 100) hx hb hown (hts _ xk_370) dN_heldByRow_26 ?_
  refine lv_ldiv hx hb dN_heldByRow_29 (by decide) ?_
  have e_f : fN_heldByRow less n one = ((n.toInt64 * one) * ((if 50 < (100 - (less * (n - 1))) then (100 - (less * (n - 1))) else 50).toInt64)) / 100 := rfl
  exact W.lret (v := (((n.toInt64 * one) * ((if 50 < (100 - (less * (n - 1))) then (100 - (less * (n - 1))) else 50).toInt64)) / 100)) hx hb hr (fun t ht hW => ⟨by rw [e_f], ht⟩) (fun _ h => by cases h) dN_heldByRow_30

def fN_fitting (length : Int32) (margin : Int32) (gap : Int32) : Int32 := if (length - (2 * margin)) < 0 then (0) else (if 1 ≤ gap then (((length - (2 * margin)) / gap) + 1) else (0))
set_option maxHeartbeats 4000000 in
set_option maxRecDepth 100000 in
theorem cN_fitting (l : Launch) {s0 : State} {dC : Nat → ClassId} {dI : Nat → Nat → Nat} {cI cC cL cO : ClassId} (E : xb_Env l s0 dC dI (xtys cI cC cL cO)) (length : Int32) (margin : Int32) (gap : Int32) : Met l yN_fitting [.code yN_fitting bN_fitting 4 (some (.int))] ({ frames := 0, cells := 0, slots := 0, locals := 0 }) (va_Pc [.int length, .int margin, .int gap] (fun U => xb_At s0 U ∧ va_P (dC, dI) classes [] U.heap)) (xb_R (some (.int (fN_fitting length margin gap)))) 0 0 (fun _ => False) := by
  refine Met.ofW (cc := bN_fitting) (maxL := 4) (ret := (some (.int))) (by decide) rfl ?_
  intro p e s m args below meth c s₁ B hml hv
  obtain ⟨rfl, hAt, hP⟩ := hv
  have hx := B.exec
  have hb := B.bytes
  have hr := B.returns
  have hts := xb_hts E hAt ([.int length, .int margin, .int gap] : List Value).toArray
  have hown : s.vm.findClass "NailRules" = some m.cls := findClass_of_methodNamed B.named
  have hlocks := B.notSynchronized
  have hK := xb_K E hAt
  have hl := lv_entry ([.int length, .int margin, .int gap]) (n := 4) (Nat.le_of_ble_eq_true rfl)
  rw [lg_entry_eq]
  generalize (lg_sl ([.int length, .int margin, .int gap]) ++ List.replicate (4 - (lg_sl ([.int length, .int margin, .int gap])).length) Slot.unset).toArray = ls at hl ⊢
  have hl : lv_has ls 4 [(0, .int length), (1, .int margin), (2, .int gap)] := hl
  refine lv_iload_n hx hb dN_fitting_0 rfl (lv_at hl 0 rfl) ?_
  refine lv_iconst (v := 2) hx hb dN_fitting_1 (by decide) ?_
  refine lv_iload_n hx hb dN_fitting_2 rfl (lv_at hl 1 rfl) ?_
  refine lv_imul hx hb dN_fitting_3 ?_
  refine lv_isub hx hb dN_fitting_4 ?_
  refine lv_istore_n (lv' := [(3, .int (length - (2 * margin))), (0, .int length), (1, .int margin), (2, .int gap)]) hx hb dN_fitting_5 rfl hl (by decide) rfl (fun ls hl => ?_)
  refine lv_iload_n hx hb dN_fitting_6 rfl (lv_at hl 0 rfl) ?_
  refine lv_if_lt (tgt := 15) hx hb dN_fitting_7 (by decide) (fun c_2 => ?_) (fun c_2 => ?_)
  · refine lv_iconst (v := 0) hx hb dN_fitting_15 (by decide) ?_
    have e_f : fN_fitting length margin gap = 0 := (if_pos c_2).trans (rfl)
    exact W.iret (v := 0) hx hb hr (fun t ht hW => ⟨by rw [e_f], ht⟩) (fun _ h => by cases h) dN_fitting_16
  · refine lv_iload_n hx hb dN_fitting_10 rfl (lv_at hl 3 rfl) ?_
    refine lv_iconst (v := 1) hx hb dN_fitting_11 (by decide) ?_
    refine lv_icmp_ge (tgt := 17) hx hb dN_fitting_12 (by decide) (fun c_3 => ?_) (fun c_3 => ?_)
    · refine lv_iload_n hx hb dN_fitting_17 rfl (lv_at hl 0 rfl) ?_
      refine lv_iload_n hx hb dN_fitting_18 rfl (lv_at hl 3 rfl) ?_
      refine lv_idiv hx hb dN_fitting_19 (xp_ne0 (by assumption)) ?_
      refine lv_iconst (v := 1) hx hb dN_fitting_20 (by decide) ?_
      refine lv_iadd hx hb dN_fitting_21 ?_
      have e_f : fN_fitting length margin gap = ((length - (2 * margin)) / gap) + 1 := (if_neg c_2).trans ((if_pos c_3).trans (rfl))
      exact W.iret (v := (((length - (2 * margin)) / gap) + 1)) hx hb hr (fun t ht hW => ⟨by rw [e_f], ht⟩) (fun _ h => by cases h) dN_fitting_22
    · refine lv_iconst (v := 0) hx hb dN_fitting_15 (by decide) ?_
      have e_f : fN_fitting length margin gap = 0 := (if_neg c_2).trans ((if_neg c_3).trans (rfl))
      exact W.iret (v := 0) hx hb hr (fun t ht hW => ⟨by rw [e_f], ht⟩) (fun _ h => by cases h) dN_fitting_16

def fN_squareBetween (xf : Nat → Int32) (yf : Nat → Int32) (a : Int32) (b : Int32) : Int64 := ((((xf a.toNatClampNeg) - (xf b.toNatClampNeg)).toInt64) * (((xf a.toNatClampNeg) - (xf b.toNatClampNeg)).toInt64)) + ((((yf a.toNatClampNeg) - (yf b.toNatClampNeg)).toInt64) * (((yf a.toNatClampNeg) - (yf b.toNatClampNeg)).toInt64))
set_option maxHeartbeats 4000000 in
set_option maxRecDepth 100000 in
theorem cN_squareBetween (l : Launch) {s0 : State} {dC : Nat → ClassId} {dI : Nat → Nat → Nat} {cI cC cL cO : ClassId} (E : xb_Env l s0 dC dI (xtys cI cC cL cO)) (h0 : Nat) (fs : List Value) (qx : Nat) (xf : Nat → Int32) (qy : Nat) (yf : Nat → Int32) (a : Int32) (b : Int32) (hf7 : fs[7]? = some (.ref qx)) (hf8 : fs[8]? = some (.ref qy)) (ha : vp_in a 32) (hb2 : vp_in b 32) : Met l yN_squareBetween [.code yN_squareBetween bN_squareBetween 7 (some (.long))] ({ frames := 0, cells := 0, slots := 0, locals := 0 }) (va_Pc [.ref h0, .int a, .int b] (fun U => xb_At s0 U ∧ va_P (dC, dI) classes [(h0, .inr (0, fs)), (qx, .inl (cI, 32, .inl xf)), (qy, .inl (cI, 32, .inl yf))] U.heap)) (xb_R (some (.long (fN_squareBetween xf yf a b)))) 0 0 (fun _ => False) := by
  refine Met.ofW (cc := bN_squareBetween) (maxL := 7) (ret := (some (.long))) (by decide) rfl ?_
  intro p e s m args below meth c s₁ B hml hv
  obtain ⟨rfl, hAt, hP⟩ := hv
  have hx := B.exec
  have hb := B.bytes
  have hr := B.returns
  have hts := xb_hts E hAt ([.ref h0, .int a, .int b] : List Value).toArray
  have hown : s.vm.findClass "NailRules" = some m.cls := findClass_of_methodNamed B.named
  have hlocks := B.notSynchronized
  have hK := xb_K E hAt
  have hl := lv_entry ([.ref h0, .int a, .int b]) (n := 7) (Nat.le_of_ble_eq_true rfl)
  rw [lg_entry_eq]
  generalize (lg_sl ([.ref h0, .int a, .int b]) ++ List.replicate (7 - (lg_sl ([.ref h0, .int a, .int b])).length) Slot.unset).toArray = ls at hl ⊢
  have hl : lv_has ls 7 [(0, .ref h0), (1, .int a), (2, .int b)] := hl
  refine lv_aload_n hx hb dN_squareBetween_0 rfl (lv_at hl 0 rfl) ?_
  refine va_get (D := (dC, dI)) (ci := 0) (v := .ref qx) (C := xR_N) (T := xF_N) (N := 11) hx hb hts xi_N hown hK hP 0 rfl rfl 7 (by decide) (hts _ xk_121) (fun _ h9 => h9) hf7 dN_squareBetween_1 ?_
  refine lv_iload_n hx hb dN_squareBetween_4 rfl (lv_at hl 1 rfl) ?_
  have o_1 : vp_in a 32 := by assumption
  refine va_iald hx hb hK hP 1 0 rfl rfl o_1 dN_squareBetween_5 ?_
  refine lv_aload_n hx hb dN_squareBetween_6 rfl (lv_at hl 0 rfl) ?_
  refine va_get (D := (dC, dI)) (ci := 0) (v := .ref qx) (C := xR_N) (T := xF_N) (N := 11) hx hb hts xi_N hown hK hP 0 rfl rfl 7 (by decide) (hts _ xk_121) (fun _ h9 => h9) hf7 dN_squareBetween_7 ?_
  refine lv_iload_n hx hb dN_squareBetween_10 rfl (lv_at hl 2 rfl) ?_
  have o_2 : vp_in b 32 := by assumption
  refine va_iald hx hb hK hP 1 0 rfl rfl o_2 dN_squareBetween_11 ?_
  refine lv_isub hx hb dN_squareBetween_12 ?_
  refine lv_i2l hx hb dN_squareBetween_13 rfl ?_
  refine lv_lstore_n (lv' := [(3, .long (((xf a.toNatClampNeg) - (xf b.toNatClampNeg)).toInt64)), (0, .ref h0), (1, .int a), (2, .int b)]) hx hb dN_squareBetween_14 rfl hl (by decide) rfl (fun ls hl => ?_)
  refine lv_aload_n hx hb dN_squareBetween_15 rfl (lv_at hl 1 rfl) ?_
  refine va_get (D := (dC, dI)) (ci := 0) (v := .ref qy) (C := xR_N) (T := xF_N) (N := 11) hx hb hts xi_N hown hK hP 0 rfl rfl 8 (by decide) (hts _ xk_122) (fun _ h9 => h9) hf8 dN_squareBetween_16 ?_
  refine lv_iload_n hx hb dN_squareBetween_19 rfl (lv_at hl 2 rfl) ?_
  have o_4 : vp_in a 32 := by assumption
  refine va_iald hx hb hK hP 2 0 rfl rfl o_4 dN_squareBetween_20 ?_
  refine lv_aload_n hx hb dN_squareBetween_21 rfl (lv_at hl 1 rfl) ?_
  refine va_get (D := (dC, dI)) (ci := 0) (v := .ref qy) (C := xR_N) (T := xF_N) (N := 11) hx hb hts xi_N hown hK hP 0 rfl rfl 8 (by decide) (hts _ xk_122) (fun _ h9 => h9) hf8 dN_squareBetween_22 ?_
  refine lv_iload_n hx hb dN_squareBetween_25 rfl (lv_at hl 3 rfl) ?_
  have o_5 : vp_in b 32 := by assumption
  refine va_iald hx hb hK hP 2 0 rfl rfl o_5 dN_squareBetween_26 ?_
  refine lv_isub hx hb dN_squareBetween_27 ?_
  refine lv_i2l hx hb dN_squareBetween_28 rfl ?_
  refine lv_lstore (lv' := [(5, .long (((yf a.toNatClampNeg) - (yf b.toNatClampNeg)).toInt64)), (3, .long (((xf a.toNatClampNeg) - (xf b.toNatClampNeg)).toInt64)), (0, .ref h0), (1, .int a), (2, .int b)]) hx hb dN_squareBetween_29 hl (by decide) rfl (fun ls hl => ?_)
  refine lv_lload_n hx hb dN_squareBetween_31 rfl (lv_at hl 1 rfl) ?_
  refine lv_lload_n hx hb dN_squareBetween_32 rfl (lv_at hl 1 rfl) ?_
  refine lv_lmul hx hb dN_squareBetween_33 ?_
  refine lv_lload hx hb dN_squareBetween_34 (lv_at hl 0 rfl) ?_
  refine lv_lload hx hb dN_squareBetween_36 (lv_at hl 0 rfl) ?_
  refine lv_lmul hx hb dN_squareBetween_38 ?_
  refine lv_ladd hx hb dN_squareBetween_39 ?_
  have e_f : fN_squareBetween xf yf a b = ((((xf a.toNatClampNeg) - (xf b.toNatClampNeg)).toInt64) * (((xf a.toNatClampNeg) - (xf b.toNatClampNeg)).toInt64)) + ((((yf a.toNatClampNeg) - (yf b.toNatClampNeg)).toInt64) * (((yf a.toNatClampNeg) - (yf b.toNatClampNeg)).toInt64)) := rfl
  exact W.lret (v := (((((xf a.toNatClampNeg) - (xf b.toNatClampNeg)).toInt64) * (((xf a.toNatClampNeg) - (xf b.toNatClampNeg)).toInt64)) + ((((yf a.toNatClampNeg) - (yf b.toNatClampNeg)).toInt64) * (((yf a.toNatClampNeg) - (yf b.toNatClampNeg)).toInt64)))) hx hb hr (fun t ht hW => ⟨by rw [e_f], ht⟩) (fun _ h => by cases h) dN_squareBetween_40

def fM_grips (x0 : Int64) (y0 : Int64) (ax : Int64) (ay : Int64) (wd : Int64) (x : Int32) (y : Int32) : Bool := if ((ax * (x.toInt64 - x0)) + (ay * (y.toInt64 - y0))) < 0 then (false) else (if ((ax * (x.toInt64 - x0)) + (ay * (y.toInt64 - y0))) ≤ ((ax * ax) + (ay * ay)) then (if ((wd * wd) * ((ax * ax) + (ay * ay))) < ((4 * ((ax * (y.toInt64 - y0)) - (ay * (x.toInt64 - x0)))) * ((ax * (y.toInt64 - y0)) - (ay * (x.toInt64 - x0)))) then (false) else (true)) else (false))
set_option maxHeartbeats 4000000 in
set_option maxRecDepth 100000 in
theorem cM_grips (l : Launch) {s0 : State} {dC : Nat → ClassId} {dI : Nat → Nat → Nat} {cI cC cL cO : ClassId} (E : xb_Env l s0 dC dI (xtys cI cC cL cO)) (h0 : Nat) (fs : List Value) (x0 : Int64) (y0 : Int64) (ax : Int64) (ay : Int64) (wd : Int64) (x : Int32) (y : Int32) (hf0 : fs[0]? = some (.long x0)) (hf1 : fs[1]? = some (.long y0)) (hf2 : fs[2]? = some (.long ax)) (hf3 : fs[3]? = some (.long ay)) (hf4 : fs[4]? = some (.long wd)) : Met l yM_grips [.code yM_grips bM_grips 13 (some (.boolean))] ({ frames := 0, cells := 0, slots := 0, locals := 0 }) (va_Pc [.ref h0, .int x, .int y] (fun U => xb_At s0 U ∧ va_P (dC, dI) classes [(h0, .inr (2, fs))] U.heap)) (xb_R (some (.int (xb_bi (fM_grips x0 y0 ax ay wd x y))))) 0 0 (fun _ => False) := by
  refine Met.ofW (cc := bM_grips) (maxL := 13) (ret := (some (.boolean))) (by decide) rfl ?_
  intro p e s m args below meth c s₁ B hml hv
  obtain ⟨rfl, hAt, hP⟩ := hv
  have hx := B.exec
  have hb := B.bytes
  have hr := B.returns
  have hts := xb_hts E hAt ([.ref h0, .int x, .int y] : List Value).toArray
  have hown : s.vm.findClass "NailRules$Member" = some m.cls := findClass_of_methodNamed B.named
  have hlocks := B.notSynchronized
  have hK := xb_K E hAt
  have hl := lv_entry ([.ref h0, .int x, .int y]) (n := 13) (Nat.le_of_ble_eq_true rfl)
  rw [lg_entry_eq]
  generalize (lg_sl ([.ref h0, .int x, .int y]) ++ List.replicate (13 - (lg_sl ([.ref h0, .int x, .int y])).length) Slot.unset).toArray = ls at hl ⊢
  have hl : lv_has ls 13 [(0, .ref h0), (1, .int x), (2, .int y)] := hl
  refine lv_iload_n hx hb dM_grips_0 rfl (lv_at hl 1 rfl) ?_
  refine lv_i2l hx hb dM_grips_1 rfl ?_
  refine lv_aload_n hx hb dM_grips_2 rfl (lv_at hl 0 rfl) ?_
  refine va_get (D := (dC, dI)) (ci := 2) (v := .long x0) (C := xR_M) (T := xF_M) (N := 5) hx hb hts xi_M hown hK hP 0 rfl rfl 0 (by decide) (hts _ xk_524) (fun _ h9 => h9) hf0 dM_grips_3 ?_
  refine lv_lsub hx hb dM_grips_6 ?_
  refine lv_lstore_n (lv' := [(3, .long (x.toInt64 - x0)), (0, .ref h0), (1, .int x), (2, .int y)]) hx hb dM_grips_7 rfl hl (by decide) rfl (fun ls hl => ?_)
  refine lv_iload_n hx hb dM_grips_8 rfl (lv_at hl 3 rfl) ?_
  refine lv_i2l hx hb dM_grips_9 rfl ?_
  refine lv_aload_n hx hb dM_grips_10 rfl (lv_at hl 1 rfl) ?_
  refine va_get (D := (dC, dI)) (ci := 2) (v := .long y0) (C := xR_M) (T := xF_M) (N := 5) hx hb hts xi_M hown hK hP 0 rfl rfl 1 (by decide) (hts _ xk_525) (fun _ h9 => h9) hf1 dM_grips_11 ?_
  refine lv_lsub hx hb dM_grips_14 ?_
  refine lv_lstore (lv' := [(5, .long (y.toInt64 - y0)), (3, .long (x.toInt64 - x0)), (0, .ref h0), (1, .int x), (2, .int y)]) hx hb dM_grips_15 hl (by decide) rfl (fun ls hl => ?_)
  refine lv_aload_n hx hb dM_grips_17 rfl (lv_at hl 2 rfl) ?_
  refine va_get (D := (dC, dI)) (ci := 2) (v := .long ax) (C := xR_M) (T := xF_M) (N := 5) hx hb hts xi_M hown hK hP 0 rfl rfl 2 (by decide) (hts _ xk_526) (fun _ h9 => h9) hf2 dM_grips_18 ?_
  refine lv_aload_n hx hb dM_grips_21 rfl (lv_at hl 2 rfl) ?_
  refine va_get (D := (dC, dI)) (ci := 2) (v := .long ax) (C := xR_M) (T := xF_M) (N := 5) hx hb hts xi_M hown hK hP 0 rfl rfl 2 (by decide) (hts _ xk_526) (fun _ h9 => h9) hf2 dM_grips_22 ?_
  refine lv_lmul hx hb dM_grips_25 ?_
  refine lv_aload_n hx hb dM_grips_26 rfl (lv_at hl 2 rfl) ?_
  refine va_get (D := (dC, dI)) (ci := 2) (v := .long ay) (C := xR_M) (T := xF_M) (N := 5) hx hb hts xi_M hown hK hP 0 rfl rfl 3 (by decide) (hts _ xk_527) (fun _ h9 => h9) hf3 dM_grips_27 ?_
  refine lv_aload_n hx hb dM_grips_30 rfl (lv_at hl 2 rfl) ?_
  refine va_get (D := (dC, dI)) (ci := 2) (v := .long ay) (C := xR_M) (T := xF_M) (N := 5) hx hb hts xi_M hown hK hP 0 rfl rfl 3 (by decide) (hts _ xk_527) (fun _ h9 => h9) hf3 dM_grips_31 ?_
  refine lv_lmul hx hb dM_grips_34 ?_
  refine lv_ladd hx hb dM_grips_35 ?_
  refine lv_lstore (lv' := [(7, .long ((ax * ax) + (ay * ay))), (5, .long (y.toInt64 - y0)), (3, .long (x.toInt64 - x0)), (0, .ref h0), (1, .int x), (2, .int y)]) hx hb dM_grips_36 hl (by decide) rfl (fun ls hl => ?_)
  refine lv_aload_n hx hb dM_grips_38 rfl (lv_at hl 3 rfl) ?_
  refine va_get (D := (dC, dI)) (ci := 2) (v := .long ax) (C := xR_M) (T := xF_M) (N := 5) hx hb hts xi_M hown hK hP 0 rfl rfl 2 (by decide) (hts _ xk_526) (fun _ h9 => h9) hf2 dM_grips_39 ?_
  refine lv_lload_n hx hb dM_grips_42 rfl (lv_at hl 2 rfl) ?_
  refine lv_lmul hx hb dM_grips_43 ?_
  refine lv_aload_n hx hb dM_grips_44 rfl (lv_at hl 3 rfl) ?_
  refine va_get (D := (dC, dI)) (ci := 2) (v := .long ay) (C := xR_M) (T := xF_M) (N := 5) hx hb hts xi_M hown hK hP 0 rfl rfl 3 (by decide) (hts _ xk_527) (fun _ h9 => h9) hf3 dM_grips_45 ?_
  refine lv_lload hx hb dM_grips_48 (lv_at hl 1 rfl) ?_
  refine lv_lmul hx hb dM_grips_50 ?_
  refine lv_ladd hx hb dM_grips_51 ?_
  refine lv_lstore (lv' := [(9, .long ((ax * (x.toInt64 - x0)) + (ay * (y.toInt64 - y0)))), (7, .long ((ax * ax) + (ay * ay))), (5, .long (y.toInt64 - y0)), (3, .long (x.toInt64 - x0)), (0, .ref h0), (1, .int x), (2, .int y)]) hx hb dM_grips_52 hl (by decide) rfl (fun ls hl => ?_)
  refine lv_lload hx hb dM_grips_54 (lv_at hl 0 rfl) ?_
  refine lv_lconst (v := 0) hx hb dM_grips_56 (by decide) ?_
  refine W.lcmp hx hb dM_grips_57 ?_
  refine lv_if_lt (tgt := 69) hx hb dM_grips_58 (by decide) (fun c_5 => ?_) (fun c_5 => ?_)
  · have c_5 := (lg_cmp_lt _ _).mp c_5
    refine lv_iconst (v := 0) hx hb dM_grips_69 (by decide) ?_
    have e_f : fM_grips x0 y0 ax ay wd x y = false := (if_pos c_5).trans (rfl)
    exact W.zret (v := 0) hx hb hr (by decide) (fun t ht hW => ⟨by rw [e_f]; try rfl, ht⟩) (fun _ h => by cases h) dM_grips_70
  · have c_5 := fun q => c_5 ((lg_cmp_lt _ _).mpr q)
    refine lv_lload hx hb dM_grips_61 (lv_at hl 0 rfl) ?_
    refine lv_lload hx hb dM_grips_63 (lv_at hl 1 rfl) ?_
    refine W.lcmp hx hb dM_grips_65 ?_
    refine lv_if_le (tgt := 71) hx hb dM_grips_66 (by decide) (fun c_6 => ?_) (fun c_6 => ?_)
    · have c_6 := (lg_cmp_le _ _).mp c_6
      refine lv_aload_n hx hb dM_grips_71 rfl (lv_at hl 4 rfl) ?_
      refine va_get (D := (dC, dI)) (ci := 2) (v := .long ax) (C := xR_M) (T := xF_M) (N := 5) hx hb hts xi_M hown hK hP 0 rfl rfl 2 (by decide) (hts _ xk_526) (fun _ h9 => h9) hf2 dM_grips_72 ?_
      refine lv_lload hx hb dM_grips_75 (lv_at hl 2 rfl) ?_
      refine lv_lmul hx hb dM_grips_77 ?_
      refine lv_aload_n hx hb dM_grips_78 rfl (lv_at hl 4 rfl) ?_
      refine va_get (D := (dC, dI)) (ci := 2) (v := .long ay) (C := xR_M) (T := xF_M) (N := 5) hx hb hts xi_M hown hK hP 0 rfl rfl 3 (by decide) (hts _ xk_527) (fun _ h9 => h9) hf3 dM_grips_79 ?_
      refine lv_lload_n hx hb dM_grips_82 rfl (lv_at hl 3 rfl) ?_
      refine lv_lmul hx hb dM_grips_83 ?_
      refine lv_lsub hx hb dM_grips_84 ?_
      refine lv_lstore (lv' := [(11, .long ((ax * (y.toInt64 - y0)) - (ay * (x.toInt64 - x0)))), (9, .long ((ax * (x.toInt64 - x0)) + (ay * (y.toInt64 - y0)))), (7, .long ((ax * ax) + (ay * ay))), (5, .long (y.toInt64 - y0)), (3, .long (x.toInt64 - x0)), (0, .ref h0), (1, .int x), (2, .int y)]) hx hb dM_grips_85 hl (by decide) rfl (fun ls hl => ?_)
      refine lv_ldc2 (v := 4) hx hb hown (hts _ xk_614) dM_grips_87 ?_
      refine lv_lload hx hb dM_grips_90 (lv_at hl 0 rfl) ?_
      refine lv_lmul hx hb dM_grips_92 ?_
      refine lv_lload hx hb dM_grips_93 (lv_at hl 0 rfl) ?_
      refine lv_lmul hx hb dM_grips_95 ?_
      refine lv_aload_n hx hb dM_grips_96 rfl (lv_at hl 5 rfl) ?_
      refine va_get (D := (dC, dI)) (ci := 2) (v := .long wd) (C := xR_M) (T := xF_M) (N := 5) hx hb hts xi_M hown hK hP 0 rfl rfl 4 (by decide) (hts _ xk_528) (fun _ h9 => h9) hf4 dM_grips_97 ?_
      refine lv_aload_n hx hb dM_grips_100 rfl (lv_at hl 5 rfl) ?_
      refine va_get (D := (dC, dI)) (ci := 2) (v := .long wd) (C := xR_M) (T := xF_M) (N := 5) hx hb hts xi_M hown hK hP 0 rfl rfl 4 (by decide) (hts _ xk_528) (fun _ h9 => h9) hf4 dM_grips_101 ?_
      refine lv_lmul hx hb dM_grips_104 ?_
      refine lv_lload hx hb dM_grips_105 (lv_at hl 2 rfl) ?_
      refine lv_lmul hx hb dM_grips_107 ?_
      refine W.lcmp hx hb dM_grips_108 ?_
      refine lv_if_gt (tgt := 116) hx hb dM_grips_109 (by decide) (fun c_8 => ?_) (fun c_8 => ?_)
      · have c_8 := (lg_cmp_gt _ _).mp c_8
        refine lv_iconst (v := 0) hx hb dM_grips_116 (by decide) ?_
        have e_f : fM_grips x0 y0 ax ay wd x y = false := (if_neg c_5).trans ((if_pos c_6).trans ((if_pos c_8).trans (rfl)))
        exact W.zret (v := 0) hx hb hr (by decide) (fun t ht hW => ⟨by rw [e_f]; try rfl, ht⟩) (fun _ h => by cases h) dM_grips_117
      · have c_8 := fun q => c_8 ((lg_cmp_gt _ _).mpr q)
        refine lv_iconst (v := 1) hx hb dM_grips_112 (by decide) ?_
        refine lv_goto (tgt := 117) hx hb dM_grips_113 (by decide) ?_
        have e_f : fM_grips x0 y0 ax ay wd x y = true := (if_neg c_5).trans ((if_pos c_6).trans ((if_neg c_8).trans (rfl)))
        exact W.zret (v := 1) hx hb hr (by decide) (fun t ht hW => ⟨by rw [e_f]; try rfl, ht⟩) (fun _ h => by cases h) dM_grips_117
    · have c_6 := fun q => c_6 ((lg_cmp_le _ _).mpr q)
      refine lv_iconst (v := 0) hx hb dM_grips_69 (by decide) ?_
      have e_f : fM_grips x0 y0 ax ay wd x y = false := (if_neg c_5).trans ((if_neg c_6).trans (rfl))
      exact W.zret (v := 0) hx hb hr (by decide) (fun t ht hW => ⟨by rw [e_f]; try rfl, ht⟩) (fun _ h => by cases h) dM_grips_70

def fR_isIn (v : Int64) (lo : Int64) (hi : Int64) : Bool := if v < lo then (false) else (if hi < v then (false) else (true))
set_option maxHeartbeats 4000000 in
set_option maxRecDepth 100000 in
theorem cR_isIn (l : Launch) {s0 : State} {dC : Nat → ClassId} {dI : Nat → Nat → Nat} {cI cC cL cO : ClassId} (E : xb_Env l s0 dC dI (xtys cI cC cL cO)) (v : Int64) (lo : Int64) (hi : Int64) : Met l yR_isIn [.code yR_isIn bR_isIn 6 (some (.boolean))] ({ frames := 0, cells := 0, slots := 0, locals := 0 }) (va_Pc [.long v, .long lo, .long hi] (fun U => xb_At s0 U ∧ va_P (dC, dI) classes [] U.heap)) (xb_R (some (.int (xb_bi (fR_isIn v lo hi))))) 0 0 (fun _ => False) := by
  refine Met.ofW (cc := bR_isIn) (maxL := 6) (ret := (some (.boolean))) (by decide) rfl ?_
  intro p e s m args below meth c s₁ B hml hv
  obtain ⟨rfl, hAt, hP⟩ := hv
  have hx := B.exec
  have hb := B.bytes
  have hr := B.returns
  have hts := xb_hts E hAt ([.long v, .long lo, .long hi] : List Value).toArray
  have hown : s.vm.findClass "NailRulesModel" = some m.cls := findClass_of_methodNamed B.named
  have hlocks := B.notSynchronized
  have hK := xb_K E hAt
  have hl := lv_entry ([.long v, .long lo, .long hi]) (n := 6) (Nat.le_of_ble_eq_true rfl)
  rw [lg_entry_eq]
  generalize (lg_sl ([.long v, .long lo, .long hi]) ++ List.replicate (6 - (lg_sl ([.long v, .long lo, .long hi])).length) Slot.unset).toArray = ls at hl ⊢
  have hl : lv_has ls 6 [(0, .long v), (2, .long lo), (4, .long hi)] := hl
  refine lv_lload_n hx hb dR_isIn_0 rfl (lv_at hl 0 rfl) ?_
  refine lv_lload_n hx hb dR_isIn_1 rfl (lv_at hl 1 rfl) ?_
  refine W.lcmp hx hb dR_isIn_2 ?_
  refine lv_if_lt (tgt := 17) hx hb dR_isIn_3 (by decide) (fun c_1 => ?_) (fun c_1 => ?_)
  · have c_1 := (lg_cmp_lt _ _).mp c_1
    refine lv_iconst (v := 0) hx hb dR_isIn_17 (by decide) ?_
    have e_f : fR_isIn v lo hi = false := (if_pos c_1).trans (rfl)
    exact W.zret (v := 0) hx hb hr (by decide) (fun t ht hW => ⟨by rw [e_f]; try rfl, ht⟩) (fun _ h => by cases h) dR_isIn_18
  · have c_1 := fun q => c_1 ((lg_cmp_lt _ _).mpr q)
    refine lv_lload_n hx hb dR_isIn_6 rfl (lv_at hl 0 rfl) ?_
    refine lv_lload hx hb dR_isIn_7 (lv_at hl 2 rfl) ?_
    refine W.lcmp hx hb dR_isIn_9 ?_
    refine lv_if_gt (tgt := 17) hx hb dR_isIn_10 (by decide) (fun c_2 => ?_) (fun c_2 => ?_)
    · have c_2 := (lg_cmp_gt _ _).mp c_2
      refine lv_iconst (v := 0) hx hb dR_isIn_17 (by decide) ?_
      have e_f : fR_isIn v lo hi = false := (if_neg c_1).trans ((if_pos c_2).trans (rfl))
      exact W.zret (v := 0) hx hb hr (by decide) (fun t ht hW => ⟨by rw [e_f]; try rfl, ht⟩) (fun _ h => by cases h) dR_isIn_18
    · have c_2 := fun q => c_2 ((lg_cmp_gt _ _).mpr q)
      refine lv_iconst (v := 1) hx hb dR_isIn_13 (by decide) ?_
      refine lv_goto (tgt := 18) hx hb dR_isIn_14 (by decide) ?_
      have e_f : fR_isIn v lo hi = true := (if_neg c_1).trans ((if_neg c_2).trans (rfl))
      exact W.zret (v := 1) hx hb hr (by decide) (fun t ht hW => ⟨by rw [e_f]; try rfl, ht⟩) (fun _ h => by cases h) dR_isIn_18

def fR_isFour (k : Int32) : Bool := if k < 0 then (false) else (if 4 ≤ k then (false) else (true))
set_option maxHeartbeats 4000000 in
set_option maxRecDepth 100000 in
theorem cR_isFour (l : Launch) {s0 : State} {dC : Nat → ClassId} {dI : Nat → Nat → Nat} {cI cC cL cO : ClassId} (E : xb_Env l s0 dC dI (xtys cI cC cL cO)) (k : Int32) : Met l yR_isFour [.code yR_isFour bR_isFour 1 (some (.boolean))] ({ frames := 0, cells := 0, slots := 0, locals := 0 }) (va_Pc [.int k] (fun U => xb_At s0 U ∧ va_P (dC, dI) classes [] U.heap)) (xb_R (some (.int (xb_bi (fR_isFour k))))) 0 0 (fun _ => False) := by
  refine Met.ofW (cc := bR_isFour) (maxL := 1) (ret := (some (.boolean))) (by decide) rfl ?_
  intro p e s m args below meth c s₁ B hml hv
  obtain ⟨rfl, hAt, hP⟩ := hv
  have hx := B.exec
  have hb := B.bytes
  have hr := B.returns
  have hts := xb_hts E hAt ([.int k] : List Value).toArray
  have hown : s.vm.findClass "NailRulesModel" = some m.cls := findClass_of_methodNamed B.named
  have hlocks := B.notSynchronized
  have hK := xb_K E hAt
  have hl := lv_entry ([.int k]) (n := 1) (Nat.le_of_ble_eq_true rfl)
  rw [lg_entry_eq]
  generalize (lg_sl ([.int k]) ++ List.replicate (1 - (lg_sl ([.int k])).length) Slot.unset).toArray = ls at hl ⊢
  have hl : lv_has ls 1 [(0, .int k)] := hl
  refine lv_iload_n hx hb dR_isFour_0 rfl (lv_at hl 0 rfl) ?_
  refine lv_if_lt (tgt := 13) hx hb dR_isFour_1 (by decide) (fun c_1 => ?_) (fun c_1 => ?_)
  · refine lv_iconst (v := 0) hx hb dR_isFour_13 (by decide) ?_
    have e_f : fR_isFour k = false := (if_pos c_1).trans (rfl)
    exact W.zret (v := 0) hx hb hr (by decide) (fun t ht hW => ⟨by rw [e_f]; try rfl, ht⟩) (fun _ h => by cases h) dR_isFour_14
  · refine lv_iload_n hx hb dR_isFour_4 rfl (lv_at hl 0 rfl) ?_
    refine lv_iconst (v := 4) hx hb dR_isFour_5 (by decide) ?_
    refine lv_icmp_ge (tgt := 13) hx hb dR_isFour_6 (by decide) (fun c_2 => ?_) (fun c_2 => ?_)
    · refine lv_iconst (v := 0) hx hb dR_isFour_13 (by decide) ?_
      have e_f : fR_isFour k = false := (if_neg c_1).trans ((if_pos c_2).trans (rfl))
      exact W.zret (v := 0) hx hb hr (by decide) (fun t ht hW => ⟨by rw [e_f]; try rfl, ht⟩) (fun _ h => by cases h) dR_isFour_14
    · refine lv_iconst (v := 1) hx hb dR_isFour_9 (by decide) ?_
      refine lv_goto (tgt := 14) hx hb dR_isFour_10 (by decide) ?_
      have e_f : fR_isFour k = true := (if_neg c_1).trans ((if_neg c_2).trans (rfl))
      exact W.zret (v := 1) hx hb hr (by decide) (fun t ht hW => ⟨by rw [e_f]; try rfl, ht⟩) (fun _ h => by cases h) dR_isFour_14

def fR_isPlace (v : Int32) : Bool := (fR_isIn v.toInt64 ((-10000)) (10000))
set_option maxHeartbeats 4000000 in
set_option maxRecDepth 100000 in
theorem cR_isPlace (l : Launch) {s0 : State} {dC : Nat → ClassId} {dI : Nat → Nat → Nat} {cI cC cL cO : ClassId} (E : xb_Env l s0 dC dI (xtys cI cC cL cO)) (v : Int32) : Met l yR_isPlace [.code yR_isPlace bR_isPlace 1 (some (.boolean))] ({ frames := 1, cells := 0, slots := 0, locals := 25 }) (va_Pc [.int v] (fun U => xb_At s0 U ∧ va_P (dC, dI) classes [] U.heap)) (xb_R (some (.int (xb_bi (fR_isPlace v))))) 0 0 (fun _ => False) := by
  refine Met.ofW (cc := bR_isPlace) (maxL := 1) (ret := (some (.boolean))) (by decide) rfl ?_
  intro p e s m args below meth c s₁ B hml hv
  obtain ⟨rfl, hAt, hP⟩ := hv
  have hx := B.exec
  have hb := B.bytes
  have hr := B.returns
  have hts := xb_hts E hAt ([.int v] : List Value).toArray
  have hown : s.vm.findClass "NailRulesModel" = some m.cls := findClass_of_methodNamed B.named
  have hlocks := B.notSynchronized
  have hK := xb_K E hAt
  have hl := lv_entry ([.int v]) (n := 1) (Nat.le_of_ble_eq_true rfl)
  rw [lg_entry_eq]
  generalize (lg_sl ([.int v]) ++ List.replicate (1 - (lg_sl ([.int v])).length) Slot.unset).toArray = ls at hl ⊢
  have hl : lv_has ls 1 [(0, .int v)] := hl
  refine lv_iload_n hx hb dR_isPlace_0 rfl (lv_at hl 0 rfl) ?_
  refine lv_i2l hx hb dR_isPlace_1 rfl ?_
  refine lv_ldc2 (v := (-10000)) hx hb hown (hts _ xk_822) dR_isPlace_2 ?_
  refine lv_ldc2 (v := 10000) hx hb hown (hts _ xk_823) dR_isPlace_5 ?_
  refine xb_rd (W.runS (As := [.long v.toInt64, .long (-10000), .long 10000]) (rest := []) ⟨hx, hb, hml, hown, hts⟩ (cR_isIn l E v.toInt64 (-10000) 10000) (cwS 3 hts (xb_gi (List.forall_mem_cons.mpr ⟨xk_754, List.forall_mem_cons.mpr ⟨xk_755, List.forall_mem_cons.mpr ⟨xk_45, List.forall_mem_cons.mpr ⟨xk_756, fun _ h => absurd h List.not_mem_nil⟩⟩⟩⟩)) rfl rfl rfl (by decide +kernel) ⟨Nat.le_of_ble_eq_true rfl, Nat.le_of_ble_eq_true rfl⟩) ⟨fun _ _ _ _ q => q, fun U hU hW => ⟨rfl, xb_at0 hAt hU hW, fun k q h => by simp at h⟩⟩ rfl rfl hl.1 rfl (lv_room (Nat.le_of_ble_eq_true rfl)) dR_isPlace_8 ⟨Nat.zero_le _, Nat.zero_le _⟩) ?_
  have e_f : fR_isPlace v = (fR_isIn v.toInt64 ((-10000)) (10000)) := rfl
  exact W.zret (v := (xb_bi (fR_isIn v.toInt64 ((-10000)) (10000)))) hx hb hr (xb_bi_n _) (fun t ht hW => ⟨by rw [e_f]; try rfl, ht⟩) (fun _ h => by cases h) dR_isPlace_11

def fR_kindOf (c1 : Int32) : Int32 := if c1 = 110 then (0) else (if c1 = 115 then (1) else (if c1 = 98 then (2) else (if c1 = 100 then (3) else ((-1)))))
set_option maxHeartbeats 4000000 in
set_option maxRecDepth 100000 in
theorem cR_kindOf (l : Launch) {s0 : State} {dC : Nat → ClassId} {dI : Nat → Nat → Nat} {cI cC cL cO : ClassId} (E : xb_Env l s0 dC dI (xtys cI cC cL cO)) (c1 : Int32) : Met l yR_kindOf [.code yR_kindOf bR_kindOf 1 (some (.int))] ({ frames := 0, cells := 0, slots := 0, locals := 0 }) (va_Pc [.int c1] (fun U => xb_At s0 U ∧ va_P (dC, dI) classes [] U.heap)) (xb_R (some (.int (fR_kindOf c1)))) 0 0 (fun _ => False) := by
  refine Met.ofW (cc := bR_kindOf) (maxL := 1) (ret := (some (.int))) (by decide) rfl ?_
  intro p e s m args below meth c s₁ B hml hv
  obtain ⟨rfl, hAt, hP⟩ := hv
  have hx := B.exec
  have hb := B.bytes
  have hr := B.returns
  have hts := xb_hts E hAt ([.int c1] : List Value).toArray
  have hown : s.vm.findClass "NailRulesModel" = some m.cls := findClass_of_methodNamed B.named
  have hlocks := B.notSynchronized
  have hK := xb_K E hAt
  have hl := lv_entry ([.int c1]) (n := 1) (Nat.le_of_ble_eq_true rfl)
  rw [lg_entry_eq]
  generalize (lg_sl ([.int c1]) ++ List.replicate (1 - (lg_sl ([.int c1])).length) Slot.unset).toArray = ls at hl ⊢
  have hl : lv_has ls 1 [(0, .int c1)] := hl
  refine lv_iload_n hx hb dR_kindOf_0 rfl (lv_at hl 0 rfl) ?_
  refine lv_bipush (v := 110) hx hb dR_kindOf_1 (by decide) ?_
  refine lv_icmp_ne (tgt := 10) hx hb dR_kindOf_3 (by decide) (fun c_1 => ?_) (fun c_1 => ?_)
  · refine lv_iload_n hx hb dR_kindOf_10 rfl (lv_at hl 0 rfl) ?_
    refine lv_bipush (v := 115) hx hb dR_kindOf_11 (by decide) ?_
    refine lv_icmp_ne (tgt := 20) hx hb dR_kindOf_13 (by decide) (fun c_2 => ?_) (fun c_2 => ?_)
    · refine lv_iload_n hx hb dR_kindOf_20 rfl (lv_at hl 0 rfl) ?_
      refine lv_bipush (v := 98) hx hb dR_kindOf_21 (by decide) ?_
      refine lv_icmp_ne (tgt := 30) hx hb dR_kindOf_23 (by decide) (fun c_3 => ?_) (fun c_3 => ?_)
      · refine lv_iload_n hx hb dR_kindOf_30 rfl (lv_at hl 0 rfl) ?_
        refine lv_bipush (v := 100) hx hb dR_kindOf_31 (by decide) ?_
        refine lv_icmp_ne (tgt := 40) hx hb dR_kindOf_33 (by decide) (fun c_4 => ?_) (fun c_4 => ?_)
        · refine lv_iconst (v := (-1)) hx hb dR_kindOf_40 (by decide) ?_
          have e_f : fR_kindOf c1 = (-1) := (if_neg c_1).trans ((if_neg c_2).trans ((if_neg c_3).trans ((if_neg c_4).trans (rfl))))
          exact W.iret (v := (-1)) hx hb hr (fun t ht hW => ⟨by rw [e_f], ht⟩) (fun _ h => by cases h) dR_kindOf_41
        · refine lv_iconst (v := 3) hx hb dR_kindOf_36 (by decide) ?_
          refine lv_goto (tgt := 41) hx hb dR_kindOf_37 (by decide) ?_
          have e_f : fR_kindOf c1 = 3 := (if_neg c_1).trans ((if_neg c_2).trans ((if_neg c_3).trans ((if_pos c_4).trans (rfl))))
          exact W.iret (v := 3) hx hb hr (fun t ht hW => ⟨by rw [e_f], ht⟩) (fun _ h => by cases h) dR_kindOf_41
      · refine lv_iconst (v := 2) hx hb dR_kindOf_26 (by decide) ?_
        refine lv_goto (tgt := 41) hx hb dR_kindOf_27 (by decide) ?_
        have e_f : fR_kindOf c1 = 2 := (if_neg c_1).trans ((if_neg c_2).trans ((if_pos c_3).trans (rfl)))
        exact W.iret (v := 2) hx hb hr (fun t ht hW => ⟨by rw [e_f], ht⟩) (fun _ h => by cases h) dR_kindOf_41
    · refine lv_iconst (v := 1) hx hb dR_kindOf_16 (by decide) ?_
      refine lv_goto (tgt := 41) hx hb dR_kindOf_17 (by decide) ?_
      have e_f : fR_kindOf c1 = 1 := (if_neg c_1).trans ((if_pos c_2).trans (rfl))
      exact W.iret (v := 1) hx hb hr (fun t ht hW => ⟨by rw [e_f], ht⟩) (fun _ h => by cases h) dR_kindOf_41
  · refine lv_iconst (v := 0) hx hb dR_kindOf_6 (by decide) ?_
    refine lv_goto (tgt := 41) hx hb dR_kindOf_7 (by decide) ?_
    have e_f : fR_kindOf c1 = 0 := (if_pos c_1).trans (rfl)
    exact W.iret (v := 0) hx hb hr (fun t ht hW => ⟨by rw [e_f], ht⟩) (fun _ h => by cases h) dR_kindOf_41

def fR_fits (al : Int64) (ed : Int64) (st : Int64) : Int64 := if (0 : Int64) ≤ (al - (2 * ed)) then (((al - (2 * ed)) / st) + 1) else (0)
set_option maxHeartbeats 4000000 in
set_option maxRecDepth 100000 in
theorem cR_fits (l : Launch) {s0 : State} {dC : Nat → ClassId} {dI : Nat → Nat → Nat} {cI cC cL cO : ClassId} (E : xb_Env l s0 dC dI (xtys cI cC cL cO)) (al : Int64) (ed : Int64) (st : Int64) (hs : ¬ st = 0) : Met l yR_fits [.code yR_fits bR_fits 8 (some (.long))] ({ frames := 0, cells := 0, slots := 0, locals := 0 }) (va_Pc [.long al, .long ed, .long st] (fun U => xb_At s0 U ∧ va_P (dC, dI) classes [] U.heap)) (xb_R (some (.long (fR_fits al ed st)))) 0 0 (fun _ => False) := by
  refine Met.ofW (cc := bR_fits) (maxL := 8) (ret := (some (.long))) (by decide) rfl ?_
  intro p e s m args below meth c s₁ B hml hv
  obtain ⟨rfl, hAt, hP⟩ := hv
  have hx := B.exec
  have hb := B.bytes
  have hr := B.returns
  have hts := xb_hts E hAt ([.long al, .long ed, .long st] : List Value).toArray
  have hown : s.vm.findClass "NailRulesModel" = some m.cls := findClass_of_methodNamed B.named
  have hlocks := B.notSynchronized
  have hK := xb_K E hAt
  have hl := lv_entry ([.long al, .long ed, .long st]) (n := 8) (Nat.le_of_ble_eq_true rfl)
  rw [lg_entry_eq]
  generalize (lg_sl ([.long al, .long ed, .long st]) ++ List.replicate (8 - (lg_sl ([.long al, .long ed, .long st])).length) Slot.unset).toArray = ls at hl ⊢
  have hl : lv_has ls 8 [(0, .long al), (2, .long ed), (4, .long st)] := hl
  refine lv_lload_n hx hb dR_fits_0 rfl (lv_at hl 0 rfl) ?_
  refine lv_ldc2 (v := 2) hx hb hown (hts _ xk_645) dR_fits_1 ?_
  refine lv_lload_n hx hb dR_fits_4 rfl (lv_at hl 1 rfl) ?_
  refine lv_lmul hx hb dR_fits_5 ?_
  refine lv_lsub hx hb dR_fits_6 ?_
  refine lv_lstore (lv' := [(6, .long (al - (2 * ed))), (0, .long al), (2, .long ed), (4, .long st)]) hx hb dR_fits_7 hl (by decide) rfl (fun ls hl => ?_)
  refine lv_lload hx hb dR_fits_9 (lv_at hl 0 rfl) ?_
  refine lv_lconst (v := 0) hx hb dR_fits_11 (by decide) ?_
  refine W.lcmp hx hb dR_fits_12 ?_
  refine lv_if_ge (tgt := 20) hx hb dR_fits_13 (by decide) (fun c_2 => ?_) (fun c_2 => ?_)
  · have c_2 := (lg_cmp_ge _ _).mp c_2
    refine lv_lload hx hb dR_fits_20 (lv_at hl 0 rfl) ?_
    refine lv_lload hx hb dR_fits_22 (lv_at hl 3 rfl) ?_
    refine lv_ldiv hx hb dR_fits_24 (by assumption) ?_
    refine lv_lconst (v := 1) hx hb dR_fits_25 (by decide) ?_
    refine lv_ladd hx hb dR_fits_26 ?_
    have e_f : fR_fits al ed st = ((al - (2 * ed)) / st) + 1 := (if_pos c_2).trans (rfl)
    exact W.lret (v := (((al - (2 * ed)) / st) + 1)) hx hb hr (fun t ht hW => ⟨by rw [e_f], ht⟩) (fun _ h => by cases h) dR_fits_27
  · have c_2 := fun q => c_2 ((lg_cmp_ge _ _).mpr q)
    refine lv_lconst (v := 0) hx hb dR_fits_16 (by decide) ?_
    refine lv_goto (tgt := 27) hx hb dR_fits_17 (by decide) ?_
    have e_f : fR_fits al ed st = 0 := (if_neg c_2).trans (rfl)
    exact W.lret (v := 0) hx hb hr (fun t ht hW => ⟨by rw [e_f], ht⟩) (fun _ h => by cases h) dR_fits_27

def fR_all (less : Int64) (n : Int64) (one : Int64) : Int64 := if (50 : Int64) ≤ (100 - (less * (n - 1))) then (((n * one) * (100 - (less * (n - 1)))) / 100) else (((n * one) * 50) / 100)
set_option maxHeartbeats 4000000 in
set_option maxRecDepth 100000 in
theorem cR_all (l : Launch) {s0 : State} {dC : Nat → ClassId} {dI : Nat → Nat → Nat} {cI cC cL cO : ClassId} (E : xb_Env l s0 dC dI (xtys cI cC cL cO)) (h0 : Nat) (fs : List Value) (less : Int64) (n : Int64) (one : Int64) (hf9 : fs[9]? = some (.long less)) : Met l yR_all [.code yR_all bR_all 7 (some (.long))] ({ frames := 0, cells := 0, slots := 0, locals := 0 }) (va_Pc [.ref h0, .long n, .long one] (fun U => xb_At s0 U ∧ va_P (dC, dI) classes [(h0, .inr (3, fs))] U.heap)) (xb_R (some (.long (fR_all less n one)))) 0 0 (fun _ => False) := by
  refine Met.ofW (cc := bR_all) (maxL := 7) (ret := (some (.long))) (by decide) rfl ?_
  intro p e s m args below meth c s₁ B hml hv
  obtain ⟨rfl, hAt, hP⟩ := hv
  have hx := B.exec
  have hb := B.bytes
  have hr := B.returns
  have hts := xb_hts E hAt ([.ref h0, .long n, .long one] : List Value).toArray
  have hown : s.vm.findClass "NailRulesModel" = some m.cls := findClass_of_methodNamed B.named
  have hlocks := B.notSynchronized
  have hK := xb_K E hAt
  have hl := lv_entry ([.ref h0, .long n, .long one]) (n := 7) (Nat.le_of_ble_eq_true rfl)
  rw [lg_entry_eq]
  generalize (lg_sl ([.ref h0, .long n, .long one]) ++ List.replicate (7 - (lg_sl ([.ref h0, .long n, .long one])).length) Slot.unset).toArray = ls at hl ⊢
  have hl : lv_has ls 7 [(0, .ref h0), (1, .long n), (3, .long one)] := hl
  refine lv_ldc2 (v := 100) hx hb hown (hts _ xk_644) dR_all_0 ?_
  refine lv_aload_n hx hb dR_all_3 rfl (lv_at hl 0 rfl) ?_
  refine va_get (D := (dC, dI)) (ci := 3) (v := .long less) (C := xR_R) (T := xF_R) (N := 20) hx hb hts xi_R hown hK hP 0 rfl rfl 9 (by decide) (hts _ xk_655) (fun _ h9 => h9) hf9 dR_all_4 ?_
  refine lv_lload_n hx hb dR_all_7 rfl (lv_at hl 1 rfl) ?_
  refine lv_lconst (v := 1) hx hb dR_all_8 (by decide) ?_
  refine lv_lsub hx hb dR_all_9 ?_
  refine lv_lmul hx hb dR_all_10 ?_
  refine lv_lsub hx hb dR_all_11 ?_
  refine lv_lstore (lv' := [(5, .long (100 - (less * (n - 1)))), (0, .ref h0), (1, .long n), (3, .long one)]) hx hb dR_all_12 hl (by decide) rfl (fun ls hl => ?_)
  refine lv_lload hx hb dR_all_14 (lv_at hl 0 rfl) ?_
  refine lv_ldc2 (v := 50) hx hb hown (hts _ xk_782) dR_all_16 ?_
  refine W.lcmp hx hb dR_all_19 ?_
  refine lv_if_ge (tgt := 29) hx hb dR_all_20 (by decide) (fun c_2 => ?_) (fun c_2 => ?_)
  · have c_2 := (lg_cmp_ge _ _).mp c_2
    refine lv_lload hx hb dR_all_29 (lv_at hl 0 rfl) ?_
    refine lv_lstore (lv' := [(5, .long (100 - (less * (n - 1)))), (0, .ref h0), (1, .long n), (3, .long one)]) hx hb dR_all_31 hl (by decide) rfl (fun ls hl => ?_)
    refine lv_lload_n hx hb dR_all_33 rfl (lv_at hl 2 rfl) ?_
    refine lv_lload_n hx hb dR_all_34 rfl (lv_at hl 3 rfl) ?_
    refine lv_lmul hx hb dR_all_35 ?_
    refine lv_lload hx hb dR_all_36 (lv_at hl 0 rfl) ?_
    refine lv_lmul hx hb dR_all_38 ?_
    refine lv_ldc2 (v := 100) hx hb hown (hts _ xk_644) dR_all_39 ?_
    refine lv_ldiv hx hb dR_all_42 (by decide) ?_
    have e_f : fR_all less n one = ((n * one) * (100 - (less * (n - 1)))) / 100 := (if_pos c_2).trans (rfl)
    exact W.lret (v := (((n * one) * (100 - (less * (n - 1)))) / 100)) hx hb hr (fun t ht hW => ⟨by rw [e_f], ht⟩) (fun _ h => by cases h) dR_all_43
  · have c_2 := fun q => c_2 ((lg_cmp_ge _ _).mpr q)
    refine lv_ldc2 (v := 50) hx hb hown (hts _ xk_782) dR_all_23 ?_
    refine lv_goto (tgt := 31) hx hb dR_all_26 (by decide) ?_
    refine lv_lstore (lv' := [(5, .long 50), (0, .ref h0), (1, .long n), (3, .long one)]) hx hb dR_all_31 hl (by decide) rfl (fun ls hl => ?_)
    refine lv_lload_n hx hb dR_all_33 rfl (lv_at hl 2 rfl) ?_
    refine lv_lload_n hx hb dR_all_34 rfl (lv_at hl 3 rfl) ?_
    refine lv_lmul hx hb dR_all_35 ?_
    refine lv_lload hx hb dR_all_36 (lv_at hl 0 rfl) ?_
    refine lv_lmul hx hb dR_all_38 ?_
    refine lv_ldc2 (v := 100) hx hb hown (hts _ xk_644) dR_all_39 ?_
    refine lv_ldiv hx hb dR_all_42 (by decide) ?_
    have e_f : fR_all less n one = ((n * one) * 50) / 100 := (if_neg c_2).trans (rfl)
    exact W.lret (v := (((n * one) * 50) / 100)) hx hb hr (fun t ht hW => ⟨by rw [e_f], ht⟩) (fun _ h => by cases h) dR_all_43

def fR_formula (rf : Nat → Int32) (kind : Int32) (which : Int32) (a : Int64) (b : Int64) : Int64 := if which = 0 then ((((rf ((7 * kind) + 1).toNatClampNeg).toInt64) * a) * ((rf (7 * kind).toNatClampNeg).toInt64)) else (if which = 1 then ((((rf ((7 * kind) + 1).toNatClampNeg).toInt64) * b) * ((rf (7 * kind).toNatClampNeg).toInt64)) else (if which = 2 then (((((rf ((7 * kind) + 1).toNatClampNeg).toInt64) * (a + b)) * ((rf (7 * kind).toNatClampNeg).toInt64)) / 2) else (((((rf ((7 * kind) + 1).toNatClampNeg).toInt64) * ((rf (7 * kind).toNatClampNeg).toInt64)) * ((rf (7 * kind).toNatClampNeg).toInt64)) * 4)))
set_option maxHeartbeats 4000000 in
set_option maxRecDepth 100000 in
theorem cR_formula (l : Launch) {s0 : State} {dC : Nat → ClassId} {dI : Nat → Nat → Nat} {cI cC cL cO : ClassId} (E : xb_Env l s0 dC dI (xtys cI cC cL cO)) (h0 : Nat) (fs : List Value) (ra : Nat) (rf : Nat → Int32) (kind : Int32) (which : Int32) (a : Int64) (b : Int64) (hf6 : fs[6]? = some (.ref ra)) (hz : vp_in (7 * kind) 28) (ho : vp_in (7 * kind + 1) 28) : Met l yR_formula [.code yR_formula bR_formula 11 (some (.long))] ({ frames := 0, cells := 0, slots := 0, locals := 0 }) (va_Pc [.ref h0, .int kind, .int which, .long a, .long b] (fun U => xb_At s0 U ∧ va_P (dC, dI) classes [(h0, .inr (3, fs)), (ra, .inl (cI, 28, .inl rf))] U.heap)) (xb_R (some (.long (fR_formula rf kind which a b)))) 0 0 (fun _ => False) := by
  refine Met.ofW (cc := bR_formula) (maxL := 11) (ret := (some (.long))) (by decide) rfl ?_
  intro p e s m args below meth c s₁ B hml hv
  obtain ⟨rfl, hAt, hP⟩ := hv
  have hx := B.exec
  have hb := B.bytes
  have hr := B.returns
  have hts := xb_hts E hAt ([.ref h0, .int kind, .int which, .long a, .long b] : List Value).toArray
  have hown : s.vm.findClass "NailRulesModel" = some m.cls := findClass_of_methodNamed B.named
  have hlocks := B.notSynchronized
  have hK := xb_K E hAt
  have hl := lv_entry ([.ref h0, .int kind, .int which, .long a, .long b]) (n := 11) (Nat.le_of_ble_eq_true rfl)
  rw [lg_entry_eq]
  generalize (lg_sl ([.ref h0, .int kind, .int which, .long a, .long b]) ++ List.replicate (11 - (lg_sl ([.ref h0, .int kind, .int which, .long a, .long b])).length) Slot.unset).toArray = ls at hl ⊢
  have hl : lv_has ls 11 [(0, .ref h0), (1, .int kind), (2, .int which), (3, .long a), (5, .long b)] := hl
  refine lv_aload_n hx hb dR_formula_0 rfl (lv_at hl 0 rfl) ?_
  refine va_get (D := (dC, dI)) (ci := 3) (v := .ref ra) (C := xR_R) (T := xF_R) (N := 20) hx hb hts xi_R hown hK hP 0 rfl rfl 6 (by decide) (hts _ xk_652) (fun _ h9 => h9) hf6 dR_formula_1 ?_
  refine lv_bipush (v := 7) hx hb dR_formula_4 (by decide) ?_
  refine lv_iload_n hx hb dR_formula_6 rfl (lv_at hl 1 rfl) ?_
  refine lv_imul hx hb dR_formula_7 ?_
  have o_1 : vp_in (7 * kind) 28 := by assumption
  refine va_iald hx hb hK hP 1 0 rfl rfl o_1 dR_formula_8 ?_
  refine lv_i2l hx hb dR_formula_9 rfl ?_
  refine lv_lstore (lv' := [(7, .long ((rf (7 * kind).toNatClampNeg).toInt64)), (0, .ref h0), (1, .int kind), (2, .int which), (3, .long a), (5, .long b)]) hx hb dR_formula_10 hl (by decide) rfl (fun ls hl => ?_)
  refine lv_aload_n hx hb dR_formula_12 rfl (lv_at hl 1 rfl) ?_
  refine va_get (D := (dC, dI)) (ci := 3) (v := .ref ra) (C := xR_R) (T := xF_R) (N := 20) hx hb hts xi_R hown hK hP 0 rfl rfl 6 (by decide) (hts _ xk_652) (fun _ h9 => h9) hf6 dR_formula_13 ?_
  refine lv_bipush (v := 7) hx hb dR_formula_16 (by decide) ?_
  refine lv_iload_n hx hb dR_formula_18 rfl (lv_at hl 2 rfl) ?_
  refine lv_imul hx hb dR_formula_19 ?_
  refine lv_iconst (v := 1) hx hb dR_formula_20 (by decide) ?_
  refine lv_iadd hx hb dR_formula_21 ?_
  have o_3 : vp_in ((7 * kind) + 1) 28 := by assumption
  refine va_iald hx hb hK hP 1 0 rfl rfl o_3 dR_formula_22 ?_
  refine lv_i2l hx hb dR_formula_23 rfl ?_
  refine lv_lstore (lv' := [(9, .long ((rf ((7 * kind) + 1).toNatClampNeg).toInt64)), (7, .long ((rf (7 * kind).toNatClampNeg).toInt64)), (0, .ref h0), (1, .int kind), (2, .int which), (3, .long a), (5, .long b)]) hx hb dR_formula_24 hl (by decide) rfl (fun ls hl => ?_)
  refine lv_iload_n hx hb dR_formula_26 rfl (lv_at hl 4 rfl) ?_
  refine lv_if_ne (tgt := 40) hx hb dR_formula_27 (by decide) (fun c_5 => ?_) (fun c_5 => ?_)
  · refine lv_iload_n hx hb dR_formula_40 rfl (lv_at hl 4 rfl) ?_
    refine lv_iconst (v := 1) hx hb dR_formula_41 (by decide) ?_
    refine lv_icmp_ne (tgt := 56) hx hb dR_formula_42 (by decide) (fun c_6 => ?_) (fun c_6 => ?_)
    · refine lv_iload_n hx hb dR_formula_56 rfl (lv_at hl 4 rfl) ?_
      refine lv_iconst (v := 2) hx hb dR_formula_57 (by decide) ?_
      refine lv_icmp_ne (tgt := 78) hx hb dR_formula_58 (by decide) (fun c_7 => ?_) (fun c_7 => ?_)
      · refine lv_lload hx hb dR_formula_78 (lv_at hl 0 rfl) ?_
        refine lv_lload hx hb dR_formula_80 (lv_at hl 1 rfl) ?_
        refine lv_lmul hx hb dR_formula_82 ?_
        refine lv_lload hx hb dR_formula_83 (lv_at hl 1 rfl) ?_
        refine lv_lmul hx hb dR_formula_85 ?_
        refine lv_ldc2 (v := 4) hx hb hown (hts _ xk_771) dR_formula_86 ?_
        refine lv_lmul hx hb dR_formula_89 ?_
        have e_f : fR_formula rf kind which a b = ((((rf ((7 * kind) + 1).toNatClampNeg).toInt64) * ((rf (7 * kind).toNatClampNeg).toInt64)) * ((rf (7 * kind).toNatClampNeg).toInt64)) * 4 := (if_neg c_5).trans ((if_neg c_6).trans ((if_neg c_7).trans (rfl)))
        exact W.lret (v := (((((rf ((7 * kind) + 1).toNatClampNeg).toInt64) * ((rf (7 * kind).toNatClampNeg).toInt64)) * ((rf (7 * kind).toNatClampNeg).toInt64)) * 4)) hx hb hr (fun t ht hW => ⟨by rw [e_f], ht⟩) (fun _ h => by cases h) dR_formula_90
      · refine lv_lload hx hb dR_formula_61 (lv_at hl 0 rfl) ?_
        refine lv_lload_n hx hb dR_formula_63 rfl (lv_at hl 5 rfl) ?_
        refine lv_lload hx hb dR_formula_64 (lv_at hl 6 rfl) ?_
        refine lv_ladd hx hb dR_formula_66 ?_
        refine lv_lmul hx hb dR_formula_67 ?_
        refine lv_lload hx hb dR_formula_68 (lv_at hl 1 rfl) ?_
        refine lv_lmul hx hb dR_formula_70 ?_
        refine lv_ldc2 (v := 2) hx hb hown (hts _ xk_645) dR_formula_71 ?_
        refine lv_ldiv hx hb dR_formula_74 (by decide) ?_
        refine lv_goto (tgt := 90) hx hb dR_formula_75 (by decide) ?_
        have e_f : fR_formula rf kind which a b = ((((rf ((7 * kind) + 1).toNatClampNeg).toInt64) * (a + b)) * ((rf (7 * kind).toNatClampNeg).toInt64)) / 2 := (if_neg c_5).trans ((if_neg c_6).trans ((if_pos c_7).trans (rfl)))
        exact W.lret (v := (((((rf ((7 * kind) + 1).toNatClampNeg).toInt64) * (a + b)) * ((rf (7 * kind).toNatClampNeg).toInt64)) / 2)) hx hb hr (fun t ht hW => ⟨by rw [e_f], ht⟩) (fun _ h => by cases h) dR_formula_90
    · refine lv_lload hx hb dR_formula_45 (lv_at hl 0 rfl) ?_
      refine lv_lload hx hb dR_formula_47 (lv_at hl 6 rfl) ?_
      refine lv_lmul hx hb dR_formula_49 ?_
      refine lv_lload hx hb dR_formula_50 (lv_at hl 1 rfl) ?_
      refine lv_lmul hx hb dR_formula_52 ?_
      refine lv_goto (tgt := 90) hx hb dR_formula_53 (by decide) ?_
      have e_f : fR_formula rf kind which a b = (((rf ((7 * kind) + 1).toNatClampNeg).toInt64) * b) * ((rf (7 * kind).toNatClampNeg).toInt64) := (if_neg c_5).trans ((if_pos c_6).trans (rfl))
      exact W.lret (v := ((((rf ((7 * kind) + 1).toNatClampNeg).toInt64) * b) * ((rf (7 * kind).toNatClampNeg).toInt64))) hx hb hr (fun t ht hW => ⟨by rw [e_f], ht⟩) (fun _ h => by cases h) dR_formula_90
  · refine lv_lload hx hb dR_formula_30 (lv_at hl 0 rfl) ?_
    refine lv_lload_n hx hb dR_formula_32 rfl (lv_at hl 5 rfl) ?_
    refine lv_lmul hx hb dR_formula_33 ?_
    refine lv_lload hx hb dR_formula_34 (lv_at hl 1 rfl) ?_
    refine lv_lmul hx hb dR_formula_36 ?_
    refine lv_goto (tgt := 90) hx hb dR_formula_37 (by decide) ?_
    have e_f : fR_formula rf kind which a b = (((rf ((7 * kind) + 1).toNatClampNeg).toInt64) * a) * ((rf (7 * kind).toNatClampNeg).toInt64) := (if_pos c_5).trans (rfl)
    exact W.lret (v := ((((rf ((7 * kind) + 1).toNatClampNeg).toInt64) * a) * ((rf (7 * kind).toNatClampNeg).toInt64))) hx hb hr (fun t ht hW => ⟨by rw [e_f], ht⟩) (fun _ h => by cases h) dR_formula_90

def fR_space (rf : Nat → Int32) (kind : Int32) (what : Int32) : Int64 := ((rf ((7 * kind) + what).toNatClampNeg).toInt64) * ((rf (7 * kind).toNatClampNeg).toInt64)
set_option maxHeartbeats 4000000 in
set_option maxRecDepth 100000 in
theorem cR_space (l : Launch) {s0 : State} {dC : Nat → ClassId} {dI : Nat → Nat → Nat} {cI cC cL cO : ClassId} (E : xb_Env l s0 dC dI (xtys cI cC cL cO)) (h0 : Nat) (fs : List Value) (ra : Nat) (rf : Nat → Int32) (kind : Int32) (what : Int32) (hf6 : fs[6]? = some (.ref ra)) (hz : vp_in (7 * kind) 28) (hk : vp_in (7 * kind + what) 28) : Met l yR_space [.code yR_space bR_space 3 (some (.long))] ({ frames := 0, cells := 0, slots := 0, locals := 0 }) (va_Pc [.ref h0, .int kind, .int what] (fun U => xb_At s0 U ∧ va_P (dC, dI) classes [(h0, .inr (3, fs)), (ra, .inl (cI, 28, .inl rf))] U.heap)) (xb_R (some (.long (fR_space rf kind what)))) 0 0 (fun _ => False) := by
  refine Met.ofW (cc := bR_space) (maxL := 3) (ret := (some (.long))) (by decide) rfl ?_
  intro p e s m args below meth c s₁ B hml hv
  obtain ⟨rfl, hAt, hP⟩ := hv
  have hx := B.exec
  have hb := B.bytes
  have hr := B.returns
  have hts := xb_hts E hAt ([.ref h0, .int kind, .int what] : List Value).toArray
  have hown : s.vm.findClass "NailRulesModel" = some m.cls := findClass_of_methodNamed B.named
  have hlocks := B.notSynchronized
  have hK := xb_K E hAt
  have hl := lv_entry ([.ref h0, .int kind, .int what]) (n := 3) (Nat.le_of_ble_eq_true rfl)
  rw [lg_entry_eq]
  generalize (lg_sl ([.ref h0, .int kind, .int what]) ++ List.replicate (3 - (lg_sl ([.ref h0, .int kind, .int what])).length) Slot.unset).toArray = ls at hl ⊢
  have hl : lv_has ls 3 [(0, .ref h0), (1, .int kind), (2, .int what)] := hl
  refine lv_aload_n hx hb dR_space_0 rfl (lv_at hl 0 rfl) ?_
  refine va_get (D := (dC, dI)) (ci := 3) (v := .ref ra) (C := xR_R) (T := xF_R) (N := 20) hx hb hts xi_R hown hK hP 0 rfl rfl 6 (by decide) (hts _ xk_652) (fun _ h9 => h9) hf6 dR_space_1 ?_
  refine lv_bipush (v := 7) hx hb dR_space_4 (by decide) ?_
  refine lv_iload_n hx hb dR_space_6 rfl (lv_at hl 1 rfl) ?_
  refine lv_imul hx hb dR_space_7 ?_
  refine lv_iload_n hx hb dR_space_8 rfl (lv_at hl 2 rfl) ?_
  refine lv_iadd hx hb dR_space_9 ?_
  have o_1 : vp_in ((7 * kind) + what) 28 := by assumption
  refine va_iald hx hb hK hP 1 0 rfl rfl o_1 dR_space_10 ?_
  refine lv_i2l hx hb dR_space_11 rfl ?_
  refine lv_aload_n hx hb dR_space_12 rfl (lv_at hl 0 rfl) ?_
  refine va_get (D := (dC, dI)) (ci := 3) (v := .ref ra) (C := xR_R) (T := xF_R) (N := 20) hx hb hts xi_R hown hK hP 0 rfl rfl 6 (by decide) (hts _ xk_652) (fun _ h9 => h9) hf6 dR_space_13 ?_
  refine lv_bipush (v := 7) hx hb dR_space_16 (by decide) ?_
  refine lv_iload_n hx hb dR_space_18 rfl (lv_at hl 1 rfl) ?_
  refine lv_imul hx hb dR_space_19 ?_
  have o_2 : vp_in (7 * kind) 28 := by assumption
  refine va_iald hx hb hK hP 1 0 rfl rfl o_2 dR_space_20 ?_
  refine lv_i2l hx hb dR_space_21 rfl ?_
  refine lv_lmul hx hb dR_space_22 ?_
  have e_f : fR_space rf kind what = ((rf ((7 * kind) + what).toNatClampNeg).toInt64) * ((rf (7 * kind).toNatClampNeg).toInt64) := rfl
  exact W.lret (v := (((rf ((7 * kind) + what).toNatClampNeg).toInt64) * ((rf (7 * kind).toNatClampNeg).toInt64))) hx hb hr (fun t ht hW => ⟨by rw [e_f], ht⟩) (fun _ h => by cases h) dR_space_23

def fR_noMember (mem : Int32) (m1 : Int32) : Bool := if m1 < 0 then (true) else (if m1 < mem then (false) else (true))
set_option maxHeartbeats 4000000 in
set_option maxRecDepth 100000 in
theorem cR_noMember (l : Launch) {s0 : State} {dC : Nat → ClassId} {dI : Nat → Nat → Nat} {cI cC cL cO : ClassId} (E : xb_Env l s0 dC dI (xtys cI cC cL cO)) (h0 : Nat) (fs : List Value) (mem : Int32) (m1 : Int32) (hf17 : fs[17]? = some (.int mem)) : Met l yR_noMember [.code yR_noMember bR_noMember 2 (some (.boolean))] ({ frames := 0, cells := 0, slots := 0, locals := 0 }) (va_Pc [.ref h0, .int m1] (fun U => xb_At s0 U ∧ va_P (dC, dI) classes [(h0, .inr (3, fs))] U.heap)) (xb_R (some (.int (xb_bi (fR_noMember mem m1))))) 0 0 (fun _ => False) := by
  refine Met.ofW (cc := bR_noMember) (maxL := 2) (ret := (some (.boolean))) (by decide) rfl ?_
  intro p e s m args below meth c s₁ B hml hv
  obtain ⟨rfl, hAt, hP⟩ := hv
  have hx := B.exec
  have hb := B.bytes
  have hr := B.returns
  have hts := xb_hts E hAt ([.ref h0, .int m1] : List Value).toArray
  have hown : s.vm.findClass "NailRulesModel" = some m.cls := findClass_of_methodNamed B.named
  have hlocks := B.notSynchronized
  have hK := xb_K E hAt
  have hl := lv_entry ([.ref h0, .int m1]) (n := 2) (Nat.le_of_ble_eq_true rfl)
  rw [lg_entry_eq]
  generalize (lg_sl ([.ref h0, .int m1]) ++ List.replicate (2 - (lg_sl ([.ref h0, .int m1])).length) Slot.unset).toArray = ls at hl ⊢
  have hl : lv_has ls 2 [(0, .ref h0), (1, .int m1)] := hl
  refine lv_iload_n hx hb dR_noMember_0 rfl (lv_at hl 1 rfl) ?_
  refine lv_if_lt (tgt := 12) hx hb dR_noMember_1 (by decide) (fun c_1 => ?_) (fun c_1 => ?_)
  · refine lv_iconst (v := 1) hx hb dR_noMember_12 (by decide) ?_
    refine lv_goto (tgt := 17) hx hb dR_noMember_13 (by decide) ?_
    have e_f : fR_noMember mem m1 = true := (if_pos c_1).trans (rfl)
    exact W.zret (v := 1) hx hb hr (by decide) (fun t ht hW => ⟨by rw [e_f]; try rfl, ht⟩) (fun _ h => by cases h) dR_noMember_17
  · refine lv_iload_n hx hb dR_noMember_4 rfl (lv_at hl 1 rfl) ?_
    refine lv_aload_n hx hb dR_noMember_5 rfl (lv_at hl 0 rfl) ?_
    refine va_get (D := (dC, dI)) (ci := 3) (v := .int mem) (C := xR_R) (T := xF_R) (N := 20) hx hb hts xi_R hown hK hP 0 rfl rfl 17 (by decide) (hts _ xk_663) (fun _ h9 => h9) hf17 dR_noMember_6 ?_
    refine lv_icmp_lt (tgt := 16) hx hb dR_noMember_9 (by decide) (fun c_2 => ?_) (fun c_2 => ?_)
    · refine lv_iconst (v := 0) hx hb dR_noMember_16 (by decide) ?_
      have e_f : fR_noMember mem m1 = false := (if_neg c_1).trans ((if_pos c_2).trans (rfl))
      exact W.zret (v := 0) hx hb hr (by decide) (fun t ht hW => ⟨by rw [e_f]; try rfl, ht⟩) (fun _ h => by cases h) dR_noMember_17
    · refine lv_iconst (v := 1) hx hb dR_noMember_12 (by decide) ?_
      refine lv_goto (tgt := 17) hx hb dR_noMember_13 (by decide) ?_
      have e_f : fR_noMember mem m1 = true := (if_neg c_1).trans ((if_neg c_2).trans (rfl))
      exact W.zret (v := 1) hx hb hr (by decide) (fun t ht hW => ⟨by rw [e_f]; try rfl, ht⟩) (fun _ h => by cases h) dR_noMember_17

def fR_isWithin (ef : Nat → Int32) (wf : Nat → Int32) (m1 : Int32) (x : Int64) (y : Int64) : Bool := if (((((ef ((4 * m1) + 2).toNatClampNeg) - (ef (4 * m1).toNatClampNeg)).toInt64) * (x - ((ef (4 * m1).toNatClampNeg).toInt64))) + ((((ef ((4 * m1) + 3).toNatClampNeg) - (ef ((4 * m1) + 1).toNatClampNeg)).toInt64) * (y - ((ef ((4 * m1) + 1).toNatClampNeg).toInt64)))) < 0 then (false) else (if (((((ef ((4 * m1) + 2).toNatClampNeg) - (ef (4 * m1).toNatClampNeg)).toInt64) * (((ef ((4 * m1) + 2).toNatClampNeg) - (ef (4 * m1).toNatClampNeg)).toInt64)) + ((((ef ((4 * m1) + 3).toNatClampNeg) - (ef ((4 * m1) + 1).toNatClampNeg)).toInt64) * (((ef ((4 * m1) + 3).toNatClampNeg) - (ef ((4 * m1) + 1).toNatClampNeg)).toInt64))) < (((((ef ((4 * m1) + 2).toNatClampNeg) - (ef (4 * m1).toNatClampNeg)).toInt64) * (x - ((ef (4 * m1).toNatClampNeg).toInt64))) + ((((ef ((4 * m1) + 3).toNatClampNeg) - (ef ((4 * m1) + 1).toNatClampNeg)).toInt64) * (y - ((ef ((4 * m1) + 1).toNatClampNeg).toInt64)))) then (false) else (if ((((wf m1.toNatClampNeg).toInt64) * ((wf m1.toNatClampNeg).toInt64)) * (((((ef ((4 * m1) + 2).toNatClampNeg) - (ef (4 * m1).toNatClampNeg)).toInt64) * (((ef ((4 * m1) + 2).toNatClampNeg) - (ef (4 * m1).toNatClampNeg)).toInt64)) + ((((ef ((4 * m1) + 3).toNatClampNeg) - (ef ((4 * m1) + 1).toNatClampNeg)).toInt64) * (((ef ((4 * m1) + 3).toNatClampNeg) - (ef ((4 * m1) + 1).toNatClampNeg)).toInt64)))) < ((4 * (((((ef ((4 * m1) + 2).toNatClampNeg) - (ef (4 * m1).toNatClampNeg)).toInt64) * (y - ((ef ((4 * m1) + 1).toNatClampNeg).toInt64))) - ((((ef ((4 * m1) + 3).toNatClampNeg) - (ef ((4 * m1) + 1).toNatClampNeg)).toInt64) * (x - ((ef (4 * m1).toNatClampNeg).toInt64))))) * (((((ef ((4 * m1) + 2).toNatClampNeg) - (ef (4 * m1).toNatClampNeg)).toInt64) * (y - ((ef ((4 * m1) + 1).toNatClampNeg).toInt64))) - ((((ef ((4 * m1) + 3).toNatClampNeg) - (ef ((4 * m1) + 1).toNatClampNeg)).toInt64) * (x - ((ef (4 * m1).toNatClampNeg).toInt64))))) then (false) else (true)))
set_option maxHeartbeats 4000000 in
set_option maxRecDepth 100000 in
theorem cR_isWithin (l : Launch) {s0 : State} {dC : Nat → ClassId} {dI : Nat → Nat → Nat} {cI cC cL cO : ClassId} (E : xb_Env l s0 dC dI (xtys cI cC cL cO)) (h0 : Nat) (fs : List Value) (ea : Nat) (ef : Nat → Int32) (wa : Nat) (wf : Nat → Int32) (m1 : Int32) (x : Int64) (y : Int64) (hf18 : fs[18]? = some (.ref ea)) (hf19 : fs[19]? = some (.ref wa)) (h4 : vp_in (4 * m1) 24) (h41 : vp_in (4 * m1 + 1) 24) (h42 : vp_in (4 * m1 + 2) 24) (h43 : vp_in (4 * m1 + 3) 24) (hm : vp_in m1 6) : Met l yR_isWithin [.code yR_isWithin bR_isWithin 20 (some (.boolean))] ({ frames := 0, cells := 0, slots := 0, locals := 0 }) (va_Pc [.ref h0, .int m1, .long x, .long y] (fun U => xb_At s0 U ∧ va_P (dC, dI) classes [(h0, .inr (3, fs)), (ea, .inl (cI, 24, .inl ef)), (wa, .inl (cI, 6, .inl wf))] U.heap)) (xb_R (some (.int (xb_bi (fR_isWithin ef wf m1 x y))))) 0 0 (fun _ => False) := by
  refine Met.ofW (cc := bR_isWithin) (maxL := 20) (ret := (some (.boolean))) (by decide) rfl ?_
  intro p e s m args below meth c s₁ B hml hv
  obtain ⟨rfl, hAt, hP⟩ := hv
  have hx := B.exec
  have hb := B.bytes
  have hr := B.returns
  have hts := xb_hts E hAt ([.ref h0, .int m1, .long x, .long y] : List Value).toArray
  have hown : s.vm.findClass "NailRulesModel" = some m.cls := findClass_of_methodNamed B.named
  have hlocks := B.notSynchronized
  have hK := xb_K E hAt
  have hl := lv_entry ([.ref h0, .int m1, .long x, .long y]) (n := 20) (Nat.le_of_ble_eq_true rfl)
  rw [lg_entry_eq]
  generalize (lg_sl ([.ref h0, .int m1, .long x, .long y]) ++ List.replicate (20 - (lg_sl ([.ref h0, .int m1, .long x, .long y])).length) Slot.unset).toArray = ls at hl ⊢
  have hl : lv_has ls 20 [(0, .ref h0), (1, .int m1), (2, .long x), (4, .long y)] := hl
  refine lv_aload_n hx hb dR_isWithin_0 rfl (lv_at hl 0 rfl) ?_
  refine va_get (D := (dC, dI)) (ci := 3) (v := .ref ea) (C := xR_R) (T := xF_R) (N := 20) hx hb hts xi_R hown hK hP 0 rfl rfl 18 (by decide) (hts _ xk_664) (fun _ h9 => h9) hf18 dR_isWithin_1 ?_
  refine lv_iconst (v := 4) hx hb dR_isWithin_4 (by decide) ?_
  refine lv_iload_n hx hb dR_isWithin_5 rfl (lv_at hl 1 rfl) ?_
  refine lv_imul hx hb dR_isWithin_6 ?_
  refine lv_iconst (v := 2) hx hb dR_isWithin_7 (by decide) ?_
  refine lv_iadd hx hb dR_isWithin_8 ?_
  have o_1 : vp_in ((4 * m1) + 2) 24 := by assumption
  refine va_iald hx hb hK hP 1 0 rfl rfl o_1 dR_isWithin_9 ?_
  refine lv_aload_n hx hb dR_isWithin_10 rfl (lv_at hl 0 rfl) ?_
  refine va_get (D := (dC, dI)) (ci := 3) (v := .ref ea) (C := xR_R) (T := xF_R) (N := 20) hx hb hts xi_R hown hK hP 0 rfl rfl 18 (by decide) (hts _ xk_664) (fun _ h9 => h9) hf18 dR_isWithin_11 ?_
  refine lv_iconst (v := 4) hx hb dR_isWithin_14 (by decide) ?_
  refine lv_iload_n hx hb dR_isWithin_15 rfl (lv_at hl 1 rfl) ?_
  refine lv_imul hx hb dR_isWithin_16 ?_
  have o_2 : vp_in (4 * m1) 24 := by assumption
  refine va_iald hx hb hK hP 1 0 rfl rfl o_2 dR_isWithin_17 ?_
  refine lv_isub hx hb dR_isWithin_18 ?_
  refine lv_i2l hx hb dR_isWithin_19 rfl ?_
  refine lv_lstore (lv' := [(6, .long (((ef ((4 * m1) + 2).toNatClampNeg) - (ef (4 * m1).toNatClampNeg)).toInt64)), (0, .ref h0), (1, .int m1), (2, .long x), (4, .long y)]) hx hb dR_isWithin_20 hl (by decide) rfl (fun ls hl => ?_)
  refine lv_aload_n hx hb dR_isWithin_22 rfl (lv_at hl 1 rfl) ?_
  refine va_get (D := (dC, dI)) (ci := 3) (v := .ref ea) (C := xR_R) (T := xF_R) (N := 20) hx hb hts xi_R hown hK hP 0 rfl rfl 18 (by decide) (hts _ xk_664) (fun _ h9 => h9) hf18 dR_isWithin_23 ?_
  refine lv_iconst (v := 4) hx hb dR_isWithin_26 (by decide) ?_
  refine lv_iload_n hx hb dR_isWithin_27 rfl (lv_at hl 2 rfl) ?_
  refine lv_imul hx hb dR_isWithin_28 ?_
  refine lv_iconst (v := 3) hx hb dR_isWithin_29 (by decide) ?_
  refine lv_iadd hx hb dR_isWithin_30 ?_
  have o_4 : vp_in ((4 * m1) + 3) 24 := by assumption
  refine va_iald hx hb hK hP 1 0 rfl rfl o_4 dR_isWithin_31 ?_
  refine lv_aload_n hx hb dR_isWithin_32 rfl (lv_at hl 1 rfl) ?_
  refine va_get (D := (dC, dI)) (ci := 3) (v := .ref ea) (C := xR_R) (T := xF_R) (N := 20) hx hb hts xi_R hown hK hP 0 rfl rfl 18 (by decide) (hts _ xk_664) (fun _ h9 => h9) hf18 dR_isWithin_33 ?_
  refine lv_iconst (v := 4) hx hb dR_isWithin_36 (by decide) ?_
  refine lv_iload_n hx hb dR_isWithin_37 rfl (lv_at hl 2 rfl) ?_
  refine lv_imul hx hb dR_isWithin_38 ?_
  refine lv_iconst (v := 1) hx hb dR_isWithin_39 (by decide) ?_
  refine lv_iadd hx hb dR_isWithin_40 ?_
  have o_5 : vp_in ((4 * m1) + 1) 24 := by assumption
  refine va_iald hx hb hK hP 1 0 rfl rfl o_5 dR_isWithin_41 ?_
  refine lv_isub hx hb dR_isWithin_42 ?_
  refine lv_i2l hx hb dR_isWithin_43 rfl ?_
  refine lv_lstore (lv' := [(8, .long (((ef ((4 * m1) + 3).toNatClampNeg) - (ef ((4 * m1) + 1).toNatClampNeg)).toInt64)), (6, .long (((ef ((4 * m1) + 2).toNatClampNeg) - (ef (4 * m1).toNatClampNeg)).toInt64)), (0, .ref h0), (1, .int m1), (2, .long x), (4, .long y)]) hx hb dR_isWithin_44 hl (by decide) rfl (fun ls hl => ?_)
  refine lv_lload_n hx hb dR_isWithin_46 rfl (lv_at hl 4 rfl) ?_
  refine lv_aload_n hx hb dR_isWithin_47 rfl (lv_at hl 2 rfl) ?_
  refine va_get (D := (dC, dI)) (ci := 3) (v := .ref ea) (C := xR_R) (T := xF_R) (N := 20) hx hb hts xi_R hown hK hP 0 rfl rfl 18 (by decide) (hts _ xk_664) (fun _ h9 => h9) hf18 dR_isWithin_48 ?_
  refine lv_iconst (v := 4) hx hb dR_isWithin_51 (by decide) ?_
  refine lv_iload_n hx hb dR_isWithin_52 rfl (lv_at hl 3 rfl) ?_
  refine lv_imul hx hb dR_isWithin_53 ?_
  have o_7 : vp_in (4 * m1) 24 := by assumption
  refine va_iald hx hb hK hP 1 0 rfl rfl o_7 dR_isWithin_54 ?_
  refine lv_i2l hx hb dR_isWithin_55 rfl ?_
  refine lv_lsub hx hb dR_isWithin_56 ?_
  refine lv_lstore (lv' := [(10, .long (x - ((ef (4 * m1).toNatClampNeg).toInt64))), (8, .long (((ef ((4 * m1) + 3).toNatClampNeg) - (ef ((4 * m1) + 1).toNatClampNeg)).toInt64)), (6, .long (((ef ((4 * m1) + 2).toNatClampNeg) - (ef (4 * m1).toNatClampNeg)).toInt64)), (0, .ref h0), (1, .int m1), (2, .long x), (4, .long y)]) hx hb dR_isWithin_57 hl (by decide) rfl (fun ls hl => ?_)
  refine lv_lload hx hb dR_isWithin_59 (lv_at hl 6 rfl) ?_
  refine lv_aload_n hx hb dR_isWithin_61 rfl (lv_at hl 3 rfl) ?_
  refine va_get (D := (dC, dI)) (ci := 3) (v := .ref ea) (C := xR_R) (T := xF_R) (N := 20) hx hb hts xi_R hown hK hP 0 rfl rfl 18 (by decide) (hts _ xk_664) (fun _ h9 => h9) hf18 dR_isWithin_62 ?_
  refine lv_iconst (v := 4) hx hb dR_isWithin_65 (by decide) ?_
  refine lv_iload_n hx hb dR_isWithin_66 rfl (lv_at hl 4 rfl) ?_
  refine lv_imul hx hb dR_isWithin_67 ?_
  refine lv_iconst (v := 1) hx hb dR_isWithin_68 (by decide) ?_
  refine lv_iadd hx hb dR_isWithin_69 ?_
  have o_9 : vp_in ((4 * m1) + 1) 24 := by assumption
  refine va_iald hx hb hK hP 1 0 rfl rfl o_9 dR_isWithin_70 ?_
  refine lv_i2l hx hb dR_isWithin_71 rfl ?_
  refine lv_lsub hx hb dR_isWithin_72 ?_
  refine lv_lstore (lv' := [(12, .long (y - ((ef ((4 * m1) + 1).toNatClampNeg).toInt64))), (10, .long (x - ((ef (4 * m1).toNatClampNeg).toInt64))), (8, .long (((ef ((4 * m1) + 3).toNatClampNeg) - (ef ((4 * m1) + 1).toNatClampNeg)).toInt64)), (6, .long (((ef ((4 * m1) + 2).toNatClampNeg) - (ef (4 * m1).toNatClampNeg)).toInt64)), (0, .ref h0), (1, .int m1), (2, .long x), (4, .long y)]) hx hb dR_isWithin_73 hl (by decide) rfl (fun ls hl => ?_)
  refine lv_lload hx hb dR_isWithin_75 (lv_at hl 3 rfl) ?_
  refine lv_lload hx hb dR_isWithin_77 (lv_at hl 3 rfl) ?_
  refine lv_lmul hx hb dR_isWithin_79 ?_
  refine lv_lload hx hb dR_isWithin_80 (lv_at hl 2 rfl) ?_
  refine lv_lload hx hb dR_isWithin_82 (lv_at hl 2 rfl) ?_
  refine lv_lmul hx hb dR_isWithin_84 ?_
  refine lv_ladd hx hb dR_isWithin_85 ?_
  refine lv_lstore (lv' := [(14, .long (((((ef ((4 * m1) + 2).toNatClampNeg) - (ef (4 * m1).toNatClampNeg)).toInt64) * (((ef ((4 * m1) + 2).toNatClampNeg) - (ef (4 * m1).toNatClampNeg)).toInt64)) + ((((ef ((4 * m1) + 3).toNatClampNeg) - (ef ((4 * m1) + 1).toNatClampNeg)).toInt64) * (((ef ((4 * m1) + 3).toNatClampNeg) - (ef ((4 * m1) + 1).toNatClampNeg)).toInt64)))), (12, .long (y - ((ef ((4 * m1) + 1).toNatClampNeg).toInt64))), (10, .long (x - ((ef (4 * m1).toNatClampNeg).toInt64))), (8, .long (((ef ((4 * m1) + 3).toNatClampNeg) - (ef ((4 * m1) + 1).toNatClampNeg)).toInt64)), (6, .long (((ef ((4 * m1) + 2).toNatClampNeg) - (ef (4 * m1).toNatClampNeg)).toInt64)), (0, .ref h0), (1, .int m1), (2, .long x), (4, .long y)]) hx hb dR_isWithin_86 hl (by decide) rfl (fun ls hl => ?_)
  refine lv_lload hx hb dR_isWithin_88 (lv_at hl 4 rfl) ?_
  refine lv_lload hx hb dR_isWithin_90 (lv_at hl 2 rfl) ?_
  refine lv_lmul hx hb dR_isWithin_92 ?_
  refine lv_lload hx hb dR_isWithin_93 (lv_at hl 3 rfl) ?_
  refine lv_lload hx hb dR_isWithin_95 (lv_at hl 1 rfl) ?_
  refine lv_lmul hx hb dR_isWithin_97 ?_
  refine lv_ladd hx hb dR_isWithin_98 ?_
  refine lv_lstore (lv' := [(16, .long (((((ef ((4 * m1) + 2).toNatClampNeg) - (ef (4 * m1).toNatClampNeg)).toInt64) * (x - ((ef (4 * m1).toNatClampNeg).toInt64))) + ((((ef ((4 * m1) + 3).toNatClampNeg) - (ef ((4 * m1) + 1).toNatClampNeg)).toInt64) * (y - ((ef ((4 * m1) + 1).toNatClampNeg).toInt64))))), (14, .long (((((ef ((4 * m1) + 2).toNatClampNeg) - (ef (4 * m1).toNatClampNeg)).toInt64) * (((ef ((4 * m1) + 2).toNatClampNeg) - (ef (4 * m1).toNatClampNeg)).toInt64)) + ((((ef ((4 * m1) + 3).toNatClampNeg) - (ef ((4 * m1) + 1).toNatClampNeg)).toInt64) * (((ef ((4 * m1) + 3).toNatClampNeg) - (ef ((4 * m1) + 1).toNatClampNeg)).toInt64)))), (12, .long (y - ((ef ((4 * m1) + 1).toNatClampNeg).toInt64))), (10, .long (x - ((ef (4 * m1).toNatClampNeg).toInt64))), (8, .long (((ef ((4 * m1) + 3).toNatClampNeg) - (ef ((4 * m1) + 1).toNatClampNeg)).toInt64)), (6, .long (((ef ((4 * m1) + 2).toNatClampNeg) - (ef (4 * m1).toNatClampNeg)).toInt64)), (0, .ref h0), (1, .int m1), (2, .long x), (4, .long y)]) hx hb dR_isWithin_99 hl (by decide) rfl (fun ls hl => ?_)
  refine lv_lload hx hb dR_isWithin_101 (lv_at hl 5 rfl) ?_
  refine lv_lload hx hb dR_isWithin_103 (lv_at hl 2 rfl) ?_
  refine lv_lmul hx hb dR_isWithin_105 ?_
  refine lv_lload hx hb dR_isWithin_106 (lv_at hl 4 rfl) ?_
  refine lv_lload hx hb dR_isWithin_108 (lv_at hl 3 rfl) ?_
  refine lv_lmul hx hb dR_isWithin_110 ?_
  refine lv_lsub hx hb dR_isWithin_111 ?_
  refine lv_lstore (lv' := [(18, .long (((((ef ((4 * m1) + 2).toNatClampNeg) - (ef (4 * m1).toNatClampNeg)).toInt64) * (y - ((ef ((4 * m1) + 1).toNatClampNeg).toInt64))) - ((((ef ((4 * m1) + 3).toNatClampNeg) - (ef ((4 * m1) + 1).toNatClampNeg)).toInt64) * (x - ((ef (4 * m1).toNatClampNeg).toInt64))))), (16, .long (((((ef ((4 * m1) + 2).toNatClampNeg) - (ef (4 * m1).toNatClampNeg)).toInt64) * (x - ((ef (4 * m1).toNatClampNeg).toInt64))) + ((((ef ((4 * m1) + 3).toNatClampNeg) - (ef ((4 * m1) + 1).toNatClampNeg)).toInt64) * (y - ((ef ((4 * m1) + 1).toNatClampNeg).toInt64))))), (14, .long (((((ef ((4 * m1) + 2).toNatClampNeg) - (ef (4 * m1).toNatClampNeg)).toInt64) * (((ef ((4 * m1) + 2).toNatClampNeg) - (ef (4 * m1).toNatClampNeg)).toInt64)) + ((((ef ((4 * m1) + 3).toNatClampNeg) - (ef ((4 * m1) + 1).toNatClampNeg)).toInt64) * (((ef ((4 * m1) + 3).toNatClampNeg) - (ef ((4 * m1) + 1).toNatClampNeg)).toInt64)))), (12, .long (y - ((ef ((4 * m1) + 1).toNatClampNeg).toInt64))), (10, .long (x - ((ef (4 * m1).toNatClampNeg).toInt64))), (8, .long (((ef ((4 * m1) + 3).toNatClampNeg) - (ef ((4 * m1) + 1).toNatClampNeg)).toInt64)), (6, .long (((ef ((4 * m1) + 2).toNatClampNeg) - (ef (4 * m1).toNatClampNeg)).toInt64)), (0, .ref h0), (1, .int m1), (2, .long x), (4, .long y)]) hx hb dR_isWithin_112 hl (by decide) rfl (fun ls hl => ?_)
  refine lv_lload hx hb dR_isWithin_114 (lv_at hl 1 rfl) ?_
  refine lv_lconst (v := 0) hx hb dR_isWithin_116 (by decide) ?_
  refine W.lcmp hx hb dR_isWithin_117 ?_
  refine lv_if_lt (tgt := 164) hx hb dR_isWithin_118 (by decide) (fun c_14 => ?_) (fun c_14 => ?_)
  · have c_14 := (lg_cmp_lt _ _).mp c_14
    refine lv_iconst (v := 0) hx hb dR_isWithin_164 (by decide) ?_
    have e_f : fR_isWithin ef wf m1 x y = false := (if_pos c_14).trans (rfl)
    exact W.zret (v := 0) hx hb hr (by decide) (fun t ht hW => ⟨by rw [e_f]; try rfl, ht⟩) (fun _ h => by cases h) dR_isWithin_165
  · have c_14 := fun q => c_14 ((lg_cmp_lt _ _).mpr q)
    refine lv_lload hx hb dR_isWithin_121 (lv_at hl 1 rfl) ?_
    refine lv_lload hx hb dR_isWithin_123 (lv_at hl 2 rfl) ?_
    refine W.lcmp hx hb dR_isWithin_125 ?_
    refine lv_if_gt (tgt := 164) hx hb dR_isWithin_126 (by decide) (fun c_15 => ?_) (fun c_15 => ?_)
    · have c_15 := (lg_cmp_gt _ _).mp c_15
      refine lv_iconst (v := 0) hx hb dR_isWithin_164 (by decide) ?_
      have e_f : fR_isWithin ef wf m1 x y = false := (if_neg c_14).trans ((if_pos c_15).trans (rfl))
      exact W.zret (v := 0) hx hb hr (by decide) (fun t ht hW => ⟨by rw [e_f]; try rfl, ht⟩) (fun _ h => by cases h) dR_isWithin_165
    · have c_15 := fun q => c_15 ((lg_cmp_gt _ _).mpr q)
      refine lv_ldc2 (v := 4) hx hb hown (hts _ xk_771) dR_isWithin_129 ?_
      refine lv_lload hx hb dR_isWithin_132 (lv_at hl 0 rfl) ?_
      refine lv_lmul hx hb dR_isWithin_134 ?_
      refine lv_lload hx hb dR_isWithin_135 (lv_at hl 0 rfl) ?_
      refine lv_lmul hx hb dR_isWithin_137 ?_
      refine lv_aload_n hx hb dR_isWithin_138 rfl (lv_at hl 7 rfl) ?_
      refine va_get (D := (dC, dI)) (ci := 3) (v := .ref wa) (C := xR_R) (T := xF_R) (N := 20) hx hb hts xi_R hown hK hP 0 rfl rfl 19 (by decide) (hts _ xk_665) (fun _ h9 => h9) hf19 dR_isWithin_139 ?_
      refine lv_iload_n hx hb dR_isWithin_142 rfl (lv_at hl 8 rfl) ?_
      have o_16 : vp_in m1 6 := by assumption
      refine va_iald hx hb hK hP 2 0 rfl rfl o_16 dR_isWithin_143 ?_
      refine lv_i2l hx hb dR_isWithin_144 rfl ?_
      refine lv_aload_n hx hb dR_isWithin_145 rfl (lv_at hl 7 rfl) ?_
      refine va_get (D := (dC, dI)) (ci := 3) (v := .ref wa) (C := xR_R) (T := xF_R) (N := 20) hx hb hts xi_R hown hK hP 0 rfl rfl 19 (by decide) (hts _ xk_665) (fun _ h9 => h9) hf19 dR_isWithin_146 ?_
      refine lv_iload_n hx hb dR_isWithin_149 rfl (lv_at hl 8 rfl) ?_
      have o_17 : vp_in m1 6 := by assumption
      refine va_iald hx hb hK hP 2 0 rfl rfl o_17 dR_isWithin_150 ?_
      refine lv_i2l hx hb dR_isWithin_151 rfl ?_
      refine lv_lmul hx hb dR_isWithin_152 ?_
      refine lv_lload hx hb dR_isWithin_153 (lv_at hl 2 rfl) ?_
      refine lv_lmul hx hb dR_isWithin_155 ?_
      refine W.lcmp hx hb dR_isWithin_156 ?_
      refine lv_if_gt (tgt := 164) hx hb dR_isWithin_157 (by decide) (fun c_18 => ?_) (fun c_18 => ?_)
      · have c_18 := (lg_cmp_gt _ _).mp c_18
        refine lv_iconst (v := 0) hx hb dR_isWithin_164 (by decide) ?_
        have e_f : fR_isWithin ef wf m1 x y = false := (if_neg c_14).trans ((if_neg c_15).trans ((if_pos c_18).trans (rfl)))
        exact W.zret (v := 0) hx hb hr (by decide) (fun t ht hW => ⟨by rw [e_f]; try rfl, ht⟩) (fun _ h => by cases h) dR_isWithin_165
      · have c_18 := fun q => c_18 ((lg_cmp_gt _ _).mpr q)
        refine lv_iconst (v := 1) hx hb dR_isWithin_160 (by decide) ?_
        refine lv_goto (tgt := 165) hx hb dR_isWithin_161 (by decide) ?_
        have e_f : fR_isWithin ef wf m1 x y = true := (if_neg c_14).trans ((if_neg c_15).trans ((if_neg c_18).trans (rfl)))
        exact W.zret (v := 1) hx hb hr (by decide) (fun t ht hW => ⟨by rw [e_f]; try rfl, ht⟩) (fun _ h => by cases h) dR_isWithin_165

def fR_now (tf : Nat → Int32) (sz : Int32) (pos : Int32) : Int32 := if sz ≤ pos then ((-1)) else (tf pos.toNatClampNeg)
set_option maxHeartbeats 4000000 in
set_option maxRecDepth 100000 in
theorem cR_now (l : Launch) {s0 : State} {dC : Nat → ClassId} {dI : Nat → Nat → Nat} {cI cC cL cO : ClassId} (E : xb_Env l s0 dC dI (xtys cI cC cL cO)) (h0 : Nat) (fs : List Value) (ta : Nat) (tf : Nat → Int32) (sz : Int32) (pos : Int32) (hf1 : fs[1]? = some (.ref ta)) (hf2 : fs[2]? = some (.int sz)) (hf3 : fs[3]? = some (.int pos)) (hp : 0 ≤ pos) (hs : sz ≤ 200) : Met l yR_now [.code yR_now bR_now 1 (some (.int))] ({ frames := 0, cells := 0, slots := 0, locals := 0 }) (va_Pc [.ref h0] (fun U => xb_At s0 U ∧ va_P (dC, dI) classes [(h0, .inr (3, fs)), (ta, .inl (cI, 200, .inl tf))] U.heap)) (xb_R (some (.int (fR_now tf sz pos)))) 0 0 (fun _ => False) := by
  refine Met.ofW (cc := bR_now) (maxL := 1) (ret := (some (.int))) (by decide) rfl ?_
  intro p e s m args below meth c s₁ B hml hv
  obtain ⟨rfl, hAt, hP⟩ := hv
  have hx := B.exec
  have hb := B.bytes
  have hr := B.returns
  have hts := xb_hts E hAt ([.ref h0] : List Value).toArray
  have hown : s.vm.findClass "NailRulesModel" = some m.cls := findClass_of_methodNamed B.named
  have hlocks := B.notSynchronized
  have hK := xb_K E hAt
  have hl := lv_entry ([.ref h0]) (n := 1) (Nat.le_of_ble_eq_true rfl)
  rw [lg_entry_eq]
  generalize (lg_sl ([.ref h0]) ++ List.replicate (1 - (lg_sl ([.ref h0])).length) Slot.unset).toArray = ls at hl ⊢
  have hl : lv_has ls 1 [(0, .ref h0)] := hl
  refine lv_aload_n hx hb dR_now_0 rfl (lv_at hl 0 rfl) ?_
  refine va_get (D := (dC, dI)) (ci := 3) (v := .int pos) (C := xR_R) (T := xF_R) (N := 20) hx hb hts xi_R hown hK hP 0 rfl rfl 3 (by decide) (hts _ xk_649) (fun _ h9 => h9) hf3 dR_now_1 ?_
  refine lv_aload_n hx hb dR_now_4 rfl (lv_at hl 0 rfl) ?_
  refine va_get (D := (dC, dI)) (ci := 3) (v := .int sz) (C := xR_R) (T := xF_R) (N := 20) hx hb hts xi_R hown hK hP 0 rfl rfl 2 (by decide) (hts _ xk_648) (fun _ h9 => h9) hf2 dR_now_5 ?_
  refine lv_icmp_ge (tgt := 23) hx hb dR_now_8 (by decide) (fun c_1 => ?_) (fun c_1 => ?_)
  · refine lv_iconst (v := (-1)) hx hb dR_now_23 (by decide) ?_
    have e_f : fR_now tf sz pos = (-1) := (if_pos c_1).trans (rfl)
    exact W.iret (v := (-1)) hx hb hr (fun t ht hW => ⟨by rw [e_f], ht⟩) (fun _ h => by cases h) dR_now_24
  · refine lv_aload_n hx hb dR_now_11 rfl (lv_at hl 0 rfl) ?_
    refine va_get (D := (dC, dI)) (ci := 3) (v := .ref ta) (C := xR_R) (T := xF_R) (N := 20) hx hb hts xi_R hown hK hP 0 rfl rfl 1 (by decide) (hts _ xk_647) (fun _ h9 => h9) hf1 dR_now_12 ?_
    refine lv_aload_n hx hb dR_now_15 rfl (lv_at hl 0 rfl) ?_
    refine va_get (D := (dC, dI)) (ci := 3) (v := .int pos) (C := xR_R) (T := xF_R) (N := 20) hx hb hts xi_R hown hK hP 0 rfl rfl 3 (by decide) (hts _ xk_649) (fun _ h9 => h9) hf3 dR_now_16 ?_
    have o_2 : vp_in pos 200 := by exact xp_now hp hs (by assumption)
    refine va_iald hx hb hK hP 1 0 rfl rfl o_2 dR_now_19 ?_
    refine lv_goto (tgt := 24) hx hb dR_now_20 (by decide) ?_
    have e_f : fR_now tf sz pos = tf pos.toNatClampNeg := (if_neg c_1).trans (rfl)
    exact W.iret (v := (tf pos.toNatClampNeg)) hx hb hr (fun t ht hW => ⟨by rw [e_f], ht⟩) (fun _ h => by cases h) dR_now_24

def fR_isDigit (tf : Nat → Int32) (sz : Int32) (pos : Int32) : Bool := if (fR_now tf sz pos) < 48 then (false) else (if 57 < (fR_now tf sz pos) then (false) else (true))
set_option maxHeartbeats 4000000 in
set_option maxRecDepth 100000 in
theorem cR_isDigit (l : Launch) {s0 : State} {dC : Nat → ClassId} {dI : Nat → Nat → Nat} {cI cC cL cO : ClassId} (E : xb_Env l s0 dC dI (xtys cI cC cL cO)) (h0 : Nat) (fs : List Value) (ta : Nat) (tf : Nat → Int32) (sz : Int32) (pos : Int32) (hf1 : fs[1]? = some (.ref ta)) (hf2 : fs[2]? = some (.int sz)) (hf3 : fs[3]? = some (.int pos)) (hp : 0 ≤ pos) (hs : sz ≤ 200) : Met l yR_isDigit [.code yR_isDigit bR_isDigit 1 (some (.boolean))] ({ frames := 1, cells := 0, slots := 0, locals := 20 }) (va_Pc [.ref h0] (fun U => xb_At s0 U ∧ va_P (dC, dI) classes [(h0, .inr (3, fs)), (ta, .inl (cI, 200, .inl tf))] U.heap)) (xb_R (some (.int (xb_bi (fR_isDigit tf sz pos))))) 0 0 (fun _ => False) := by
  refine Met.ofW (cc := bR_isDigit) (maxL := 1) (ret := (some (.boolean))) (by decide) rfl ?_
  intro p e s m args below meth c s₁ B hml hv
  obtain ⟨rfl, hAt, hP⟩ := hv
  have hx := B.exec
  have hb := B.bytes
  have hr := B.returns
  have hts := xb_hts E hAt ([.ref h0] : List Value).toArray
  have hown : s.vm.findClass "NailRulesModel" = some m.cls := findClass_of_methodNamed B.named
  have hlocks := B.notSynchronized
  have hK := xb_K E hAt
  have hl := lv_entry ([.ref h0]) (n := 1) (Nat.le_of_ble_eq_true rfl)
  rw [lg_entry_eq]
  generalize (lg_sl ([.ref h0]) ++ List.replicate (1 - (lg_sl ([.ref h0])).length) Slot.unset).toArray = ls at hl ⊢
  have hl : lv_has ls 1 [(0, .ref h0)] := hl
  refine lv_aload_n hx hb dR_isDigit_0 rfl (lv_at hl 0 rfl) ?_
  refine xb_rd (W.runV (C := "NailRulesModel") (As := []) (rest := []) ⟨hx, hb, hml, hown, hts⟩ (cR_now l E h0 fs ta tf sz pos hf1 hf2 hf3 (by assumption) (by assumption)) (cwV 0 hts (xb_gi (List.forall_mem_cons.mpr ⟨xk_715, List.forall_mem_cons.mpr ⟨xk_717, List.forall_mem_cons.mpr ⟨xk_27, List.forall_mem_cons.mpr ⟨xk_45, List.forall_mem_cons.mpr ⟨xk_718, fun _ h => absurd h List.not_mem_nil⟩⟩⟩⟩⟩)) rfl rfl rfl (by decide +kernel) ⟨Nat.le_of_ble_eq_true rfl, Nat.le_of_ble_eq_true rfl⟩) ⟨fun _ _ _ _ q => q, va_recv hK hP (ci := 3) (q0 := 0) rfl rfl, fun U hU hW => ⟨rfl, xb_at0 hAt hU hW, by rw [hU]; exact hP.sub (ws' := [(h0, .inr (3, fs)), (ta, .inl (cI, 200, .inl tf))]) [0, 1] rfl⟩⟩ rfl rfl hl.1 rfl (lv_room (Nat.le_of_ble_eq_true rfl)) dR_isDigit_1 ⟨Nat.zero_le _, Nat.zero_le _⟩) ?_
  refine lv_bipush (v := 48) hx hb dR_isDigit_4 (by decide) ?_
  refine lv_icmp_lt (tgt := 22) hx hb dR_isDigit_6 (by decide) (fun c_1 => ?_) (fun c_1 => ?_)
  · refine lv_iconst (v := 0) hx hb dR_isDigit_22 (by decide) ?_
    have e_f : fR_isDigit tf sz pos = false := (if_pos c_1).trans (rfl)
    exact W.zret (v := 0) hx hb hr (by decide) (fun t ht hW => ⟨by rw [e_f]; try rfl, ht⟩) (fun _ h => by cases h) dR_isDigit_23
  · refine lv_aload_n hx hb dR_isDigit_9 rfl (lv_at hl 0 rfl) ?_
    refine xb_rd (W.runV (C := "NailRulesModel") (As := []) (rest := []) ⟨hx, hb, hml, hown, hts⟩ (cR_now l E h0 fs ta tf sz pos hf1 hf2 hf3 (by assumption) (by assumption)) (cwV 0 hts (xb_gi (List.forall_mem_cons.mpr ⟨xk_715, List.forall_mem_cons.mpr ⟨xk_717, List.forall_mem_cons.mpr ⟨xk_27, List.forall_mem_cons.mpr ⟨xk_45, List.forall_mem_cons.mpr ⟨xk_718, fun _ h => absurd h List.not_mem_nil⟩⟩⟩⟩⟩)) rfl rfl rfl (by decide +kernel) ⟨Nat.le_of_ble_eq_true rfl, Nat.le_of_ble_eq_true rfl⟩) ⟨fun _ _ _ _ q => q, va_recv hK hP (ci := 3) (q0 := 0) rfl rfl, fun U hU hW => ⟨rfl, xb_at0 hAt hU hW, by rw [hU]; exact hP.sub (ws' := [(h0, .inr (3, fs)), (ta, .inl (cI, 200, .inl tf))]) [0, 1] rfl⟩⟩ rfl rfl hl.1 rfl (lv_room (Nat.le_of_ble_eq_true rfl)) dR_isDigit_10 ⟨Nat.zero_le _, Nat.zero_le _⟩) ?_
    refine lv_bipush (v := 57) hx hb dR_isDigit_13 (by decide) ?_
    refine lv_icmp_gt (tgt := 22) hx hb dR_isDigit_15 (by decide) (fun c_2 => ?_) (fun c_2 => ?_)
    · refine lv_iconst (v := 0) hx hb dR_isDigit_22 (by decide) ?_
      have e_f : fR_isDigit tf sz pos = false := (if_neg c_1).trans ((if_pos c_2).trans (rfl))
      exact W.zret (v := 0) hx hb hr (by decide) (fun t ht hW => ⟨by rw [e_f]; try rfl, ht⟩) (fun _ h => by cases h) dR_isDigit_23
    · refine lv_iconst (v := 1) hx hb dR_isDigit_18 (by decide) ?_
      refine lv_goto (tgt := 23) hx hb dR_isDigit_19 (by decide) ?_
      have e_f : fR_isDigit tf sz pos = true := (if_neg c_1).trans ((if_neg c_2).trans (rfl))
      exact W.zret (v := 1) hx hb hr (by decide) (fun t ht hW => ⟨by rw [e_f]; try rfl, ht⟩) (fun _ h => by cases h) dR_isDigit_23
