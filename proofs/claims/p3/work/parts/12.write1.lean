theorem xp_lt {q b : Int32} {n : Nat} (hb : b.toInt = n) (h0 : 0 ≤ q) (h1 : q < b) : vp_in q n := by
  rw [vp_in_iff]
  simp only [Int32.le_iff_toInt_le, Int32.lt_iff_toInt_lt] at h0 h1
  have e0 : (0 : Int32).toInt = 0 := by decide
  omega
theorem xp_ne {q b : Int32} {n : Nat} (hb : b.toInt = n) (h0 : 0 ≤ q) (h1 : q ≤ b) (h2 : ¬ q = b) : vp_in q n := by
  rw [vp_in_iff]
  simp only [Int32.le_iff_toInt_le] at h0 h1
  have e0 : (0 : Int32).toInt = 0 := by decide
  have e2 : ¬ q.toInt = b.toInt := fun q9 => h2 (Int32.toInt_inj.mp q9)
  omega
theorem xp_four {k : Int32} (h : fR_isFour k = true) : ∃ j : Nat, j < 4 ∧ k = nI j := by
  rcases pk_ix k (n := 4) (by decide) with q | q | q
  · rw [fR_isFour, if_pos q] at h; cases h
  · by_cases c0 : k < 0
    · rw [fR_isFour, if_pos c0] at h; cases h
    · rw [fR_isFour, if_neg c0, if_pos (show (4 : Int32) ≤ k from q)] at h; cases h
  · exact q
theorem xp_isIn {v lo hi : Int64} : fR_isIn v lo hi = true ↔ lo ≤ v ∧ v ≤ hi := by
  unfold fR_isIn
  simp only [Int64.lt_iff_toInt_lt, Int64.le_iff_toInt_le]
  constructor
  · intro h
    split at h
    · cases h
    · split at h
      · cases h
      · omega
  · intro h
    rw [if_neg (by omega), if_neg (by omega)]
theorem xp_seven {w : Int32} (h : fR_isIn w.toInt64 0 6 = true) : ∃ j : Nat, j < 7 ∧ w = nI j := by
  rw [xp_isIn] at h
  simp only [Int64.le_iff_toInt_le, Int32.toInt_toInt64] at h
  have e0 : (0 : Int64).toInt = 0 := by decide
  have e6 : (6 : Int64).toInt = 6 := by decide
  rcases pk_ix w (n := 7) (by decide) with q | q | q
  · rw [Int32.lt_iff_toInt_lt] at q
    have z0 : (0 : Int32).toInt = 0 := by decide
    omega
  · rw [Int32.le_iff_toInt_le, nI_toInt (by decide)] at q
    omega
  · exact q
theorem xp_k7 : ∀ j, j < 4 → ∀ i, i < 7 → vp_in (7 * nI j + nI i) 28 := by unfold vp_in; decide +kernel
theorem xp_k70 : ∀ j, j < 4 → vp_in (7 * nI j) 28 := by unfold vp_in; decide +kernel
theorem xp_rule {k w : Int32} (h1 : fR_isFour k = true) (h2 : fR_isIn w.toInt64 0 6 = true) : vp_in (7 * k + w) 28 := by
  obtain ⟨j, hj, rfl⟩ := xp_four h1
  obtain ⟨i, hi, rfl⟩ := xp_seven h2
  exact xp_k7 j hj i hi
theorem xp_rul0 {k : Int32} (h1 : fR_isFour k = true) : vp_in (7 * k) 28 := by
  obtain ⟨j, hj, rfl⟩ := xp_four h1
  exact xp_k70 j hj
theorem xp_rulN {k : Int32} (i : Nat) (hi : i < 7) (h1 : fR_isFour k = true) : vp_in (7 * k + nI i) 28 := by
  obtain ⟨j, hj, rfl⟩ := xp_four h1
  exact xp_k7 j hj i hi
theorem xp_mem {k mb : Int32} (h : ¬ fR_noMember mb k = true) (hm : mb ≤ 6) : ∃ j : Nat, j < 6 ∧ k = nI j := by
  rcases pk_ix k (n := 6) (by decide) with q | q | q
  · exact absurd (by rw [fR_noMember, if_pos q]) h
  · exfalso
    have q2 : mb ≤ k := by
      rw [Int32.le_iff_toInt_le, nI_toInt (by decide)] at q
      rw [Int32.le_iff_toInt_le] at hm ⊢
      have e6 : (6 : Int32).toInt = 6 := by decide
      omega
    apply h
    unfold fR_noMember
    split
    · rfl
    · split
      · rename_i q3
        rw [Int32.le_iff_toInt_le] at q2
        rw [Int32.lt_iff_toInt_lt] at q3
        omega
      · rfl
  · exact q
theorem xp_m4b : ∀ j, j < 6 → vp_in (4 * nI j) 24 ∧ vp_in (4 * nI j + 1) 24 ∧ vp_in (4 * nI j + 2) 24 ∧ vp_in (4 * nI j + 3) 24 ∧ vp_in (nI j) 6 := by unfold vp_in; decide +kernel
theorem xp_mb {mb : Int32} (h : ¬ mb = 6) (h0 : 0 ≤ mb) (h6 : mb ≤ 6) : vp_in (4 * mb) 24 ∧ vp_in (4 * mb + 1) 24 ∧ vp_in (4 * mb + 2) 24 ∧ vp_in (4 * mb + 3) 24 ∧ vp_in mb 6 := by
  obtain ⟨j, hj, rfl⟩ := vp_in_of (xp_ne (n := 6) (by decide) h0 h6 h) (by decide)
  exact xp_m4b j hj
theorem xp_m4 : ∀ j, j < 6 → vp_in (4 * nI j) 24 ∧ vp_in (4 * nI j + 1) 24 ∧ vp_in (4 * nI j + 2) 24 ∧ vp_in (4 * nI j + 3) 24 ∧ vp_in (nI j) 6 := by unfold vp_in; decide +kernel
theorem xp_mems {k mb : Int32} (h : ¬ fR_noMember mb k = true) (hm : mb ≤ 6) : vp_in (4 * k) 24 ∧ vp_in (4 * k + 1) 24 ∧ vp_in (4 * k + 2) 24 ∧ vp_in (4 * k + 3) 24 ∧ vp_in k 6 := by
  obtain ⟨j, hj, rfl⟩ := xp_mem h hm
  exact xp_m4 j hj
theorem xp_app {len : Int32} (h0 : 0 ≤ len) (h1 : ¬ 200 ≤ len) : vp_in len 200 := by
  rw [vp_in_iff]
  simp only [Int32.le_iff_toInt_le] at h0 h1
  have e0 : (0 : Int32).toInt = 0 := by decide
  have e2 : (200 : Int32).toInt = 200 := by decide
  omega
def gT_empty_1  : Int32 := (0)
set_option maxHeartbeats 4000000 in
set_option maxRecDepth 100000 in
theorem cT_empty (l : Launch) {s0 : State} {dC : Nat → ClassId} {dI : Nat → Nat → Nat} {cI cC cL cO : ClassId} (E : xb_Env l s0 dC dI (xtys cI cC cL cO)) (sz : Nat) (h0 : Nat) (ua : Nat) (len : Int32) (nx : Int32) : Met l yT_empty [.code yT_empty bT_empty 1 none] ({ frames := 0, cells := 0, slots := 0, locals := 0 }) (va_Pc [.ref h0] (fun U => xb_At s0 U ∧ U.heap.size = sz ∧ va_P (dC, dI) classes [(h0, .inr (1, [.ref ua, .int len, .int nx]))] U.heap ∧ va_D (fun q => s0.heap.size ≤ q) [(h0, .inr (1, [.ref ua, .int len, .int nx]))])) (xb_W (dC, dI) (fun v9 w9 => v9 = none ∧ w9 = [(h0, .inr (1, [.ref ua, .int (gT_empty_1 ), .int nx]))]) (va_A [(h0, .inr (1, [.ref ua, .int len, .int nx]))] sz)) 0 0 (va_A [(h0, .inr (1, [.ref ua, .int len, .int nx]))] sz) := by
  refine Met.ofW (cc := bT_empty) (maxL := 1) (ret := none) (by decide) rfl ?_
  intro p e s m args below meth c s₁ B hml hv
  obtain ⟨rfl, hAt, hsz, hP, hD0⟩ := hv
  have hx := B.exec
  have hb := B.bytes
  have hr := B.returns
  have hts := xb_hts E hAt ([.ref h0] : List Value).toArray
  have hown : s.vm.findClass "NailRules$Text" = some m.cls := findClass_of_methodNamed B.named
  have hlocks := B.notSynchronized
  have hK := xb_K E hAt
  subst hsz
  have hA0 := xb_A0 hAt hD0
  have hD := hD0.self (sz := s.heap.size)
  generalize hAe : va_A [(h0, .inr (1, [.ref ua, .int len, .int nx]))] s.heap.size = A at hD hA0 ⊢
  have hA : ∀ q : Nat, s.heap.size ≤ q → A q := fun q h => by rw [← hAe]; exact Or.inr h
  have hS : va_S A s.heap s.heap [] := va_S.rf
  have hl := lv_entry ([.ref h0]) (n := 1) (Nat.le_of_ble_eq_true rfl)
  rw [lg_entry_eq]
  generalize (lg_sl ([.ref h0]) ++ List.replicate (1 - (lg_sl ([.ref h0])).length) Slot.unset).toArray = ls at hl ⊢
  have hl : lv_has ls 1 [(0, .ref h0)] := hl
  refine lv_aload_n hx hb dT_empty_0 rfl (lv_at hl 0 rfl) ?_
  refine lv_iconst (v := 0) hx hb dT_empty_1 (by decide) ?_
  refine va_put (D := (dC, dI)) (ci := 1) (v := .int 0) (ty := .int) (C := xR_T) (T := xF_T) (N := 3) hx hb hts xi_T xt_T xt_T_ok xn_T hown hK hP hD hS 0 rfl rfl 1 (by decide) (hts _ xk_77) (fun _ h9 => h9) rfl (by decide +kernel) rfl rfl (Nat.le_of_ble_eq_true rfl) dT_empty_2 (fun H locs hP hD hS => ?_)
  have hP : va_P (dC, dI) classes [(h0, .inr (1, [.ref ua, .int 0, .int nx]))] H := hP
  have hD : va_D A [(h0, .inr (1, [.ref ua, .int 0, .int nx]))] := hD
  have e_0 : gT_empty_1  = (0 : Int32) := rfl
  have hP9 := hP.sub (ws' := [(h0, .inr (1, [.ref ua, .int 0, .int nx]))]) [0] rfl
  have hD9 := hD.sub (ws' := [(h0, .inr (1, [.ref ua, .int 0, .int nx]))]) [0] (by decide) rfl
  exact W.vret hx hb hr (fun t ht hW => ⟨_, _, rfl, ⟨by first | rfl | (simp only [e_0]; try rfl), by first | rfl | (simp only [e_0]; try rfl)⟩, by rw [ht]; exact hP9, hD9, hS.F ht⟩) hS.2.2 dT_empty_5

def gT_rewind_2  : Int32 := (0)
set_option maxHeartbeats 4000000 in
set_option maxRecDepth 100000 in
theorem cT_rewind (l : Launch) {s0 : State} {dC : Nat → ClassId} {dI : Nat → Nat → Nat} {cI cC cL cO : ClassId} (E : xb_Env l s0 dC dI (xtys cI cC cL cO)) (sz : Nat) (h0 : Nat) (ua : Nat) (len : Int32) (nx : Int32) : Met l yT_rewind [.code yT_rewind bT_rewind 1 none] ({ frames := 0, cells := 0, slots := 0, locals := 0 }) (va_Pc [.ref h0] (fun U => xb_At s0 U ∧ U.heap.size = sz ∧ va_P (dC, dI) classes [(h0, .inr (1, [.ref ua, .int len, .int nx]))] U.heap ∧ va_D (fun q => s0.heap.size ≤ q) [(h0, .inr (1, [.ref ua, .int len, .int nx]))])) (xb_W (dC, dI) (fun v9 w9 => v9 = none ∧ w9 = [(h0, .inr (1, [.ref ua, .int len, .int (gT_rewind_2 )]))]) (va_A [(h0, .inr (1, [.ref ua, .int len, .int nx]))] sz)) 0 0 (va_A [(h0, .inr (1, [.ref ua, .int len, .int nx]))] sz) := by
  refine Met.ofW (cc := bT_rewind) (maxL := 1) (ret := none) (by decide) rfl ?_
  intro p e s m args below meth c s₁ B hml hv
  obtain ⟨rfl, hAt, hsz, hP, hD0⟩ := hv
  have hx := B.exec
  have hb := B.bytes
  have hr := B.returns
  have hts := xb_hts E hAt ([.ref h0] : List Value).toArray
  have hown : s.vm.findClass "NailRules$Text" = some m.cls := findClass_of_methodNamed B.named
  have hlocks := B.notSynchronized
  have hK := xb_K E hAt
  subst hsz
  have hA0 := xb_A0 hAt hD0
  have hD := hD0.self (sz := s.heap.size)
  generalize hAe : va_A [(h0, .inr (1, [.ref ua, .int len, .int nx]))] s.heap.size = A at hD hA0 ⊢
  have hA : ∀ q : Nat, s.heap.size ≤ q → A q := fun q h => by rw [← hAe]; exact Or.inr h
  have hS : va_S A s.heap s.heap [] := va_S.rf
  have hl := lv_entry ([.ref h0]) (n := 1) (Nat.le_of_ble_eq_true rfl)
  rw [lg_entry_eq]
  generalize (lg_sl ([.ref h0]) ++ List.replicate (1 - (lg_sl ([.ref h0])).length) Slot.unset).toArray = ls at hl ⊢
  have hl : lv_has ls 1 [(0, .ref h0)] := hl
  refine lv_aload_n hx hb dT_rewind_0 rfl (lv_at hl 0 rfl) ?_
  refine lv_iconst (v := 0) hx hb dT_rewind_1 (by decide) ?_
  refine va_put (D := (dC, dI)) (ci := 1) (v := .int 0) (ty := .int) (C := xR_T) (T := xF_T) (N := 3) hx hb hts xi_T xt_T xt_T_ok xn_T hown hK hP hD hS 0 rfl rfl 2 (by decide) (hts _ xk_78) (fun _ h9 => h9) rfl (by decide +kernel) rfl rfl (Nat.le_of_ble_eq_true rfl) dT_rewind_2 (fun H locs hP hD hS => ?_)
  have hP : va_P (dC, dI) classes [(h0, .inr (1, [.ref ua, .int len, .int 0]))] H := hP
  have hD : va_D A [(h0, .inr (1, [.ref ua, .int len, .int 0]))] := hD
  have e_0 : gT_rewind_2  = (0 : Int32) := rfl
  have hP9 := hP.sub (ws' := [(h0, .inr (1, [.ref ua, .int len, .int 0]))]) [0] rfl
  have hD9 := hD.sub (ws' := [(h0, .inr (1, [.ref ua, .int len, .int 0]))]) [0] (by decide) rfl
  exact W.vret hx hb hr (fun t ht hW => ⟨_, _, rfl, ⟨by first | rfl | (simp only [e_0]; try rfl), by first | rfl | (simp only [e_0]; try rfl)⟩, by rw [ht]; exact hP9, hD9, hS.F ht⟩) hS.2.2 dT_rewind_5

def gT_append (uf : Nat → Int32) (len : Int32) (nx : Int32) (u : Int32) : Bool := if 200 ≤ len then (false) else (if u < 32 then (false) else (if u ≤ 126 then (true) else (false)))
def gT_append_1 (uf : Nat → Int32) (len : Int32) (nx : Int32) (u : Int32) : Int32 := if 200 ≤ len then (len) else (if u < 32 then (len) else (if u ≤ 126 then (len + 1) else (len)))
def gT_append_f (uf : Nat → Int32) (len : Int32) (nx : Int32) (u : Int32) : Nat → Int32 := if 200 ≤ len then (uf) else (if u < 32 then (uf) else (if u ≤ 126 then (upd uf len.toNatClampNeg (vp_nar .char ((u.toUInt32 % 65536).toInt32))) else (uf)))
set_option maxHeartbeats 4000000 in
set_option maxRecDepth 100000 in
theorem cT_append (l : Launch) {s0 : State} {dC : Nat → ClassId} {dI : Nat → Nat → Nat} {cI cC cL cO : ClassId} (E : xb_Env l s0 dC dI (xtys cI cC cL cO)) (sz : Nat) (h0 : Nat) (ua : Nat) (len : Int32) (nx : Int32) (uf : Nat → Int32) (u : Int32) (hlen : 0 ≤ len) : Met l yT_append [.code yT_append bT_append 2 (some (.boolean))] ({ frames := 0, cells := 0, slots := 0, locals := 0 }) (va_Pc [.ref h0, .int u] (fun U => xb_At s0 U ∧ U.heap.size = sz ∧ va_P (dC, dI) classes [(h0, .inr (1, [.ref ua, .int len, .int nx])), (ua, .inl (cC, 200, .inl uf))] U.heap ∧ va_D (fun q => s0.heap.size ≤ q) [(h0, .inr (1, [.ref ua, .int len, .int nx])), (ua, .inl (cC, 200, .inl uf))])) (xb_W (dC, dI) (fun v9 w9 => v9 = some (.int (xb_bi (gT_append uf len nx u))) ∧ w9 = [(h0, .inr (1, [.ref ua, .int (gT_append_1 uf len nx u), .int nx])), (ua, .inl (cC, 200, .inl (gT_append_f uf len nx u)))]) (va_A [(h0, .inr (1, [.ref ua, .int len, .int nx])), (ua, .inl (cC, 200, .inl uf))] sz)) 0 0 (va_A [(h0, .inr (1, [.ref ua, .int len, .int nx])), (ua, .inl (cC, 200, .inl uf))] sz) := by
  refine Met.ofW (cc := bT_append) (maxL := 2) (ret := (some (.boolean))) (by decide) rfl ?_
  intro p e s m args below meth c s₁ B hml hv
  obtain ⟨rfl, hAt, hsz, hP, hD0⟩ := hv
  have hx := B.exec
  have hb := B.bytes
  have hr := B.returns
  have hts := xb_hts E hAt ([.ref h0, .int u] : List Value).toArray
  have hown : s.vm.findClass "NailRules$Text" = some m.cls := findClass_of_methodNamed B.named
  have hlocks := B.notSynchronized
  have hK := xb_K E hAt
  subst hsz
  have hA0 := xb_A0 hAt hD0
  have hD := hD0.self (sz := s.heap.size)
  generalize hAe : va_A [(h0, .inr (1, [.ref ua, .int len, .int nx])), (ua, .inl (cC, 200, .inl uf))] s.heap.size = A at hD hA0 ⊢
  have hA : ∀ q : Nat, s.heap.size ≤ q → A q := fun q h => by rw [← hAe]; exact Or.inr h
  have hS : va_S A s.heap s.heap [] := va_S.rf
  have hl := lv_entry ([.ref h0, .int u]) (n := 2) (Nat.le_of_ble_eq_true rfl)
  rw [lg_entry_eq]
  generalize (lg_sl ([.ref h0, .int u]) ++ List.replicate (2 - (lg_sl ([.ref h0, .int u])).length) Slot.unset).toArray = ls at hl ⊢
  have hl : lv_has ls 2 [(0, .ref h0), (1, .int u)] := hl
  refine lv_aload_n hx hb dT_append_0 rfl (lv_at hl 0 rfl) ?_
  refine va_get (D := (dC, dI)) (ci := 1) (v := .int len) (C := xR_T) (T := xF_T) (N := 3) hx hb hts xi_T hown hK hP 0 rfl rfl 1 (by decide) (hts _ xk_77) (fun _ h9 => h9) rfl dT_append_1 ?_
  refine lv_sipush (v := 200) hx hb dT_append_4 (by decide) ?_
  refine lv_icmp_ge (tgt := 22) hx hb dT_append_7 (by decide) (fun c_1 => ?_) (fun c_1 => ?_)
  · refine lv_iconst (v := 0) hx hb dT_append_22 (by decide) ?_
    have e_0 : gT_append uf len nx u = false := (if_pos c_1).trans (rfl)
    have e_1 : gT_append_1 uf len nx u = len := (if_pos c_1).trans (rfl)
    have e_2 : gT_append_f uf len nx u = uf := (if_pos c_1).trans (rfl)
    have hP9 := hP.sub (ws' := [(h0, .inr (1, [.ref ua, .int len, .int nx])), (ua, .inl (cC, 200, .inl uf))]) [0, 1] rfl
    have hD9 := hD.sub (ws' := [(h0, .inr (1, [.ref ua, .int len, .int nx])), (ua, .inl (cC, 200, .inl uf))]) [0, 1] (by decide) rfl
    exact W.zret (v := 0) hx hb hr (by decide) (fun t ht hW => ⟨_, _, rfl, ⟨by first | rfl | (simp only [e_0, e_1, e_2]; try rfl), by first | rfl | (simp only [e_0, e_1, e_2]; try rfl)⟩, by rw [ht]; exact hP9, hD9, hS.F ht⟩) hS.2.2 dT_append_23
  · refine lv_iload_n hx hb dT_append_10 rfl (lv_at hl 1 rfl) ?_
    refine lv_bipush (v := 32) hx hb dT_append_11 (by decide) ?_
    refine lv_icmp_lt (tgt := 22) hx hb dT_append_13 (by decide) (fun c_2 => ?_) (fun c_2 => ?_)
    · refine lv_iconst (v := 0) hx hb dT_append_22 (by decide) ?_
      have e_0 : gT_append uf len nx u = false := (if_neg c_1).trans ((if_pos c_2).trans (rfl))
      have e_1 : gT_append_1 uf len nx u = len := (if_neg c_1).trans ((if_pos c_2).trans (rfl))
      have e_2 : gT_append_f uf len nx u = uf := (if_neg c_1).trans ((if_pos c_2).trans (rfl))
      have hP9 := hP.sub (ws' := [(h0, .inr (1, [.ref ua, .int len, .int nx])), (ua, .inl (cC, 200, .inl uf))]) [0, 1] rfl
      have hD9 := hD.sub (ws' := [(h0, .inr (1, [.ref ua, .int len, .int nx])), (ua, .inl (cC, 200, .inl uf))]) [0, 1] (by decide) rfl
      exact W.zret (v := 0) hx hb hr (by decide) (fun t ht hW => ⟨_, _, rfl, ⟨by first | rfl | (simp only [e_0, e_1, e_2]; try rfl), by first | rfl | (simp only [e_0, e_1, e_2]; try rfl)⟩, by rw [ht]; exact hP9, hD9, hS.F ht⟩) hS.2.2 dT_append_23
    · refine lv_iload_n hx hb dT_append_16 rfl (lv_at hl 1 rfl) ?_
      refine lv_bipush (v := 126) hx hb dT_append_17 (by decide) ?_
      refine lv_icmp_le (tgt := 24) hx hb dT_append_19 (by decide) (fun c_3 => ?_) (fun c_3 => ?_)
      · refine lv_aload_n hx hb dT_append_24 rfl (lv_at hl 0 rfl) ?_
        refine va_get (D := (dC, dI)) (ci := 1) (v := .ref ua) (C := xR_T) (T := xF_T) (N := 3) hx hb hts xi_T hown hK hP 0 rfl rfl 0 (by decide) (hts _ xk_76) (fun _ h9 => h9) rfl dT_append_25 ?_
        refine lv_aload_n hx hb dT_append_28 rfl (lv_at hl 0 rfl) ?_
        refine va_get (D := (dC, dI)) (ci := 1) (v := .int len) (C := xR_T) (T := xF_T) (N := 3) hx hb hts xi_T hown hK hP 0 rfl rfl 1 (by decide) (hts _ xk_77) (fun _ h9 => h9) rfl dT_append_29 ?_
        refine lv_iload_n hx hb dT_append_32 rfl (lv_at hl 1 rfl) ?_
        refine lv_i2c hx hb dT_append_33 rfl ?_
        have o_4 : vp_in len 200 := by exact xp_app hlen (by assumption)
        refine va_cast hx hb hK hP hD hS 1 1 rfl rfl o_4 dT_append_34 (fun H locs hP hD hS => ?_)
        have hP : va_P (dC, dI) classes [(h0, .inr (1, [.ref ua, .int len, .int nx])), (ua, .inl (cC, 200, .inl (upd uf len.toNatClampNeg (vp_nar .char ((u.toUInt32 % 65536).toInt32)))))] H := hP
        have hD : va_D A [(h0, .inr (1, [.ref ua, .int len, .int nx])), (ua, .inl (cC, 200, .inl (upd uf len.toNatClampNeg (vp_nar .char ((u.toUInt32 % 65536).toInt32)))))] := hD
        refine lv_aload_n hx hb dT_append_35 rfl (lv_at hl 0 rfl) ?_
        refine lv_dup hx hb dT_append_36 rfl ?_
        refine va_get (D := (dC, dI)) (ci := 1) (v := .int len) (C := xR_T) (T := xF_T) (N := 3) hx hb hts xi_T hown hK hP 0 rfl rfl 1 (by decide) (hts _ xk_77) (fun _ h9 => h9) rfl dT_append_37 ?_
        refine lv_iconst (v := 1) hx hb dT_append_40 (by decide) ?_
        refine lv_iadd hx hb dT_append_41 ?_
        refine va_put (D := (dC, dI)) (ci := 1) (v := .int (len + 1)) (ty := .int) (C := xR_T) (T := xF_T) (N := 3) hx hb hts xi_T xt_T xt_T_ok xn_T hown hK hP hD hS 0 rfl rfl 1 (by decide) (hts _ xk_77) (fun _ h9 => h9) rfl (by decide +kernel) rfl rfl (Nat.le_of_ble_eq_true rfl) dT_append_42 (fun H locs hP hD hS => ?_)
        have hP : va_P (dC, dI) classes [(h0, .inr (1, [.ref ua, .int (len + 1), .int nx])), (ua, .inl (cC, 200, .inl (upd uf len.toNatClampNeg (vp_nar .char ((u.toUInt32 % 65536).toInt32)))))] H := hP
        have hD : va_D A [(h0, .inr (1, [.ref ua, .int (len + 1), .int nx])), (ua, .inl (cC, 200, .inl (upd uf len.toNatClampNeg (vp_nar .char ((u.toUInt32 % 65536).toInt32)))))] := hD
        refine lv_iconst (v := 1) hx hb dT_append_45 (by decide) ?_
        have e_0 : gT_append uf len nx u = true := (if_neg c_1).trans ((if_neg c_2).trans ((if_pos c_3).trans (rfl)))
        have e_1 : gT_append_1 uf len nx u = (len + 1) := (if_neg c_1).trans ((if_neg c_2).trans ((if_pos c_3).trans (rfl)))
        have e_2 : gT_append_f uf len nx u = (upd uf len.toNatClampNeg (vp_nar .char ((u.toUInt32 % 65536).toInt32))) := (if_neg c_1).trans ((if_neg c_2).trans ((if_pos c_3).trans (rfl)))
        have hP9 := hP.sub (ws' := [(h0, .inr (1, [.ref ua, .int (len + 1), .int nx])), (ua, .inl (cC, 200, .inl (upd uf len.toNatClampNeg (vp_nar .char ((u.toUInt32 % 65536).toInt32)))))]) [0, 1] rfl
        have hD9 := hD.sub (ws' := [(h0, .inr (1, [.ref ua, .int (len + 1), .int nx])), (ua, .inl (cC, 200, .inl (upd uf len.toNatClampNeg (vp_nar .char ((u.toUInt32 % 65536).toInt32)))))]) [0, 1] (by decide) rfl
        exact W.zret (v := 1) hx hb hr (by decide) (fun t ht hW => ⟨_, _, rfl, ⟨by first | rfl | (simp only [e_0, e_1, e_2]; try rfl), by first | rfl | (simp only [e_0, e_1, e_2]; try rfl)⟩, by rw [ht]; exact hP9, hD9, hS.F ht⟩) hS.2.2 dT_append_46
      · refine lv_iconst (v := 0) hx hb dT_append_22 (by decide) ?_
        have e_0 : gT_append uf len nx u = false := (if_neg c_1).trans ((if_neg c_2).trans ((if_neg c_3).trans (rfl)))
        have e_1 : gT_append_1 uf len nx u = len := (if_neg c_1).trans ((if_neg c_2).trans ((if_neg c_3).trans (rfl)))
        have e_2 : gT_append_f uf len nx u = uf := (if_neg c_1).trans ((if_neg c_2).trans ((if_neg c_3).trans (rfl)))
        have hP9 := hP.sub (ws' := [(h0, .inr (1, [.ref ua, .int len, .int nx])), (ua, .inl (cC, 200, .inl uf))]) [0, 1] rfl
        have hD9 := hD.sub (ws' := [(h0, .inr (1, [.ref ua, .int len, .int nx])), (ua, .inl (cC, 200, .inl uf))]) [0, 1] (by decide) rfl
        exact W.zret (v := 0) hx hb hr (by decide) (fun t ht hW => ⟨_, _, rfl, ⟨by first | rfl | (simp only [e_0, e_1, e_2]; try rfl), by first | rfl | (simp only [e_0, e_1, e_2]; try rfl)⟩, by rw [ht]; exact hP9, hD9, hS.F ht⟩) hS.2.2 dT_append_23

def gT_take (uf : Nat → Int32) (len : Int32) (nx : Int32) (wanted : Int32) : Bool := if (fT_look uf len nx) = wanted then (true) else (false)
def gT_take_2 (uf : Nat → Int32) (len : Int32) (nx : Int32) (wanted : Int32) : Int32 := if (fT_look uf len nx) = wanted then (nx + 1) else (nx)
set_option maxHeartbeats 4000000 in
set_option maxRecDepth 100000 in
theorem cT_take (l : Launch) {s0 : State} {dC : Nat → ClassId} {dI : Nat → Nat → Nat} {cI cC cL cO : ClassId} (E : xb_Env l s0 dC dI (xtys cI cC cL cO)) (sz : Nat) (h0 : Nat) (ua : Nat) (len : Int32) (nx : Int32) (uf : Nat → Int32) (wanted : Int32) (hlen : len ≤ 200) : Met l yT_take [.code yT_take bT_take 2 (some (.boolean))] ({ frames := 1, cells := 0, slots := 0, locals := 21 }) (va_Pc [.ref h0, .int wanted] (fun U => xb_At s0 U ∧ U.heap.size = sz ∧ va_P (dC, dI) classes [(h0, .inr (1, [.ref ua, .int len, .int nx])), (ua, .inl (cC, 200, .inl uf))] U.heap ∧ va_D (fun q => s0.heap.size ≤ q) [(h0, .inr (1, [.ref ua, .int len, .int nx])), (ua, .inl (cC, 200, .inl uf))])) (xb_W (dC, dI) (fun v9 w9 => v9 = some (.int (xb_bi (gT_take uf len nx wanted))) ∧ w9 = [(h0, .inr (1, [.ref ua, .int len, .int (gT_take_2 uf len nx wanted)])), (ua, .inl (cC, 200, .inl uf))]) (va_A [(h0, .inr (1, [.ref ua, .int len, .int nx])), (ua, .inl (cC, 200, .inl uf))] sz)) 0 0 (va_A [(h0, .inr (1, [.ref ua, .int len, .int nx])), (ua, .inl (cC, 200, .inl uf))] sz) := by
  refine Met.ofW (cc := bT_take) (maxL := 2) (ret := (some (.boolean))) (by decide) rfl ?_
  intro p e s m args below meth c s₁ B hml hv
  obtain ⟨rfl, hAt, hsz, hP, hD0⟩ := hv
  have hx := B.exec
  have hb := B.bytes
  have hr := B.returns
  have hts := xb_hts E hAt ([.ref h0, .int wanted] : List Value).toArray
  have hown : s.vm.findClass "NailRules$Text" = some m.cls := findClass_of_methodNamed B.named
  have hlocks := B.notSynchronized
  have hK := xb_K E hAt
  subst hsz
  have hA0 := xb_A0 hAt hD0
  have hD := hD0.self (sz := s.heap.size)
  generalize hAe : va_A [(h0, .inr (1, [.ref ua, .int len, .int nx])), (ua, .inl (cC, 200, .inl uf))] s.heap.size = A at hD hA0 ⊢
  have hA : ∀ q : Nat, s.heap.size ≤ q → A q := fun q h => by rw [← hAe]; exact Or.inr h
  have hS : va_S A s.heap s.heap [] := va_S.rf
  have hl := lv_entry ([.ref h0, .int wanted]) (n := 2) (Nat.le_of_ble_eq_true rfl)
  rw [lg_entry_eq]
  generalize (lg_sl ([.ref h0, .int wanted]) ++ List.replicate (2 - (lg_sl ([.ref h0, .int wanted])).length) Slot.unset).toArray = ls at hl ⊢
  have hl : lv_has ls 2 [(0, .ref h0), (1, .int wanted)] := hl
  refine lv_aload_n hx hb dT_take_0 rfl (lv_at hl 0 rfl) ?_
  refine lv_aload_n hx hb dT_take_1 rfl (lv_at hl 0 rfl) ?_
  refine va_get (D := (dC, dI)) (ci := 1) (v := .int nx) (C := xR_T) (T := xF_T) (N := 3) hx hb hts xi_T hown hK hP 0 rfl rfl 2 (by decide) (hts _ xk_78) (fun _ h9 => h9) rfl dT_take_2 ?_
  refine xb_rd (W.runV (C := "NailRules$Text") (As := [.int nx]) (rest := []) ⟨hx, hb, hml, hown, hts⟩ (cT_look l E h0 ([.ref ua, .int len, .int nx]) ua uf len nx rfl rfl (by assumption)) (cwV 1 hts (xb_gi (List.forall_mem_cons.mpr ⟨xk_176, List.forall_mem_cons.mpr ⟨xk_178, List.forall_mem_cons.mpr ⟨xk_5, List.forall_mem_cons.mpr ⟨xk_41, List.forall_mem_cons.mpr ⟨xk_179, fun _ h => absurd h List.not_mem_nil⟩⟩⟩⟩⟩)) rfl rfl rfl (by decide +kernel) ⟨Nat.le_of_ble_eq_true rfl, Nat.le_of_ble_eq_true rfl⟩) ⟨fun _ _ _ _ q => q, va_recv hK hP (ci := 1) (q0 := 0) rfl rfl, fun U hU hW => ⟨rfl, xb_atS hAt hS hA0 hU hW, by rw [hU]; exact hP.sub (ws' := [(h0, .inr (1, [.ref ua, .int len, .int nx])), (ua, .inl (cC, 200, .inl uf))]) [0, 1] rfl⟩⟩ rfl rfl hl.1 rfl (lv_room (Nat.le_of_ble_eq_true rfl)) dT_take_5 ⟨Nat.zero_le _, Nat.zero_le _⟩) ?_
  refine lv_iload_n hx hb dT_take_8 rfl (lv_at hl 1 rfl) ?_
  refine lv_icmp_eq (tgt := 14) hx hb dT_take_9 (by decide) (fun c_1 => ?_) (fun c_1 => ?_)
  · refine lv_aload_n hx hb dT_take_14 rfl (lv_at hl 0 rfl) ?_
    refine lv_dup hx hb dT_take_15 rfl ?_
    refine va_get (D := (dC, dI)) (ci := 1) (v := .int nx) (C := xR_T) (T := xF_T) (N := 3) hx hb hts xi_T hown hK hP 0 rfl rfl 2 (by decide) (hts _ xk_78) (fun _ h9 => h9) rfl dT_take_16 ?_
    refine lv_iconst (v := 1) hx hb dT_take_19 (by decide) ?_
    refine lv_iadd hx hb dT_take_20 ?_
    refine va_put (D := (dC, dI)) (ci := 1) (v := .int (nx + 1)) (ty := .int) (C := xR_T) (T := xF_T) (N := 3) hx hb hts xi_T xt_T xt_T_ok xn_T hown hK hP hD hS 0 rfl rfl 2 (by decide) (hts _ xk_78) (fun _ h9 => h9) rfl (by decide +kernel) rfl rfl (Nat.le_of_ble_eq_true rfl) dT_take_21 (fun H locs hP hD hS => ?_)
    have hP : va_P (dC, dI) classes [(h0, .inr (1, [.ref ua, .int len, .int (nx + 1)])), (ua, .inl (cC, 200, .inl uf))] H := hP
    have hD : va_D A [(h0, .inr (1, [.ref ua, .int len, .int (nx + 1)])), (ua, .inl (cC, 200, .inl uf))] := hD
    refine lv_iconst (v := 1) hx hb dT_take_24 (by decide) ?_
    have e_0 : gT_take uf len nx wanted = true := (if_pos c_1).trans (rfl)
    have e_1 : gT_take_2 uf len nx wanted = (nx + 1) := (if_pos c_1).trans (rfl)
    have hP9 := hP.sub (ws' := [(h0, .inr (1, [.ref ua, .int len, .int (nx + 1)])), (ua, .inl (cC, 200, .inl uf))]) [0, 1] rfl
    have hD9 := hD.sub (ws' := [(h0, .inr (1, [.ref ua, .int len, .int (nx + 1)])), (ua, .inl (cC, 200, .inl uf))]) [0, 1] (by decide) rfl
    exact W.zret (v := 1) hx hb hr (by decide) (fun t ht hW => ⟨_, _, rfl, ⟨by first | rfl | (simp only [e_0, e_1]; try rfl), by first | rfl | (simp only [e_0, e_1]; try rfl)⟩, by rw [ht]; exact hP9, hD9, hS.F ht⟩) hS.2.2 dT_take_25
  · refine lv_iconst (v := 0) hx hb dT_take_12 (by decide) ?_
    have e_0 : gT_take uf len nx wanted = false := (if_neg c_1).trans (rfl)
    have e_1 : gT_take_2 uf len nx wanted = nx := (if_neg c_1).trans (rfl)
    have hP9 := hP.sub (ws' := [(h0, .inr (1, [.ref ua, .int len, .int nx])), (ua, .inl (cC, 200, .inl uf))]) [0, 1] rfl
    have hD9 := hD.sub (ws' := [(h0, .inr (1, [.ref ua, .int len, .int nx])), (ua, .inl (cC, 200, .inl uf))]) [0, 1] (by decide) rfl
    exact W.zret (v := 0) hx hb hr (by decide) (fun t ht hW => ⟨_, _, rfl, ⟨by first | rfl | (simp only [e_0, e_1]; try rfl), by first | rfl | (simp only [e_0, e_1]; try rfl)⟩, by rw [ht]; exact hP9, hD9, hS.F ht⟩) hS.2.2 dT_take_13

def gT_takeKind (uf : Nat → Int32) (len : Int32) (nx : Int32) : Int32 := if (fT_kindOf (fT_look uf len nx)) = (-1) then (fT_kindOf (fT_look uf len nx)) else (fT_kindOf (fT_look uf len nx))
def gT_takeKind_2 (uf : Nat → Int32) (len : Int32) (nx : Int32) : Int32 := if (fT_kindOf (fT_look uf len nx)) = (-1) then (nx) else (nx + 1)
set_option maxHeartbeats 4000000 in
set_option maxRecDepth 100000 in
theorem cT_takeKind (l : Launch) {s0 : State} {dC : Nat → ClassId} {dI : Nat → Nat → Nat} {cI cC cL cO : ClassId} (E : xb_Env l s0 dC dI (xtys cI cC cL cO)) (sz : Nat) (h0 : Nat) (ua : Nat) (len : Int32) (nx : Int32) (uf : Nat → Int32) (hlen : len ≤ 200) : Met l yT_takeKind [.code yT_takeKind bT_takeKind 2 (some (.int))] ({ frames := 1, cells := 0, slots := 0, locals := 21 }) (va_Pc [.ref h0] (fun U => xb_At s0 U ∧ U.heap.size = sz ∧ va_P (dC, dI) classes [(h0, .inr (1, [.ref ua, .int len, .int nx])), (ua, .inl (cC, 200, .inl uf))] U.heap ∧ va_D (fun q => s0.heap.size ≤ q) [(h0, .inr (1, [.ref ua, .int len, .int nx])), (ua, .inl (cC, 200, .inl uf))])) (xb_W (dC, dI) (fun v9 w9 => v9 = some (.int (gT_takeKind uf len nx)) ∧ w9 = [(h0, .inr (1, [.ref ua, .int len, .int (gT_takeKind_2 uf len nx)])), (ua, .inl (cC, 200, .inl uf))]) (va_A [(h0, .inr (1, [.ref ua, .int len, .int nx])), (ua, .inl (cC, 200, .inl uf))] sz)) 0 0 (va_A [(h0, .inr (1, [.ref ua, .int len, .int nx])), (ua, .inl (cC, 200, .inl uf))] sz) := by
  refine Met.ofW (cc := bT_takeKind) (maxL := 2) (ret := (some (.int))) (by decide) rfl ?_
  intro p e s m args below meth c s₁ B hml hv
  obtain ⟨rfl, hAt, hsz, hP, hD0⟩ := hv
  have hx := B.exec
  have hb := B.bytes
  have hr := B.returns
  have hts := xb_hts E hAt ([.ref h0] : List Value).toArray
  have hown : s.vm.findClass "NailRules$Text" = some m.cls := findClass_of_methodNamed B.named
  have hlocks := B.notSynchronized
  have hK := xb_K E hAt
  subst hsz
  have hA0 := xb_A0 hAt hD0
  have hD := hD0.self (sz := s.heap.size)
  generalize hAe : va_A [(h0, .inr (1, [.ref ua, .int len, .int nx])), (ua, .inl (cC, 200, .inl uf))] s.heap.size = A at hD hA0 ⊢
  have hA : ∀ q : Nat, s.heap.size ≤ q → A q := fun q h => by rw [← hAe]; exact Or.inr h
  have hS : va_S A s.heap s.heap [] := va_S.rf
  have hl := lv_entry ([.ref h0]) (n := 2) (Nat.le_of_ble_eq_true rfl)
  rw [lg_entry_eq]
  generalize (lg_sl ([.ref h0]) ++ List.replicate (2 - (lg_sl ([.ref h0])).length) Slot.unset).toArray = ls at hl ⊢
  have hl : lv_has ls 2 [(0, .ref h0)] := hl
  refine lv_aload_n hx hb dT_takeKind_0 rfl (lv_at hl 0 rfl) ?_
  refine lv_aload_n hx hb dT_takeKind_1 rfl (lv_at hl 0 rfl) ?_
  refine va_get (D := (dC, dI)) (ci := 1) (v := .int nx) (C := xR_T) (T := xF_T) (N := 3) hx hb hts xi_T hown hK hP 0 rfl rfl 2 (by decide) (hts _ xk_78) (fun _ h9 => h9) rfl dT_takeKind_2 ?_
  refine xb_rd (W.runV (C := "NailRules$Text") (As := [.int nx]) (rest := []) ⟨hx, hb, hml, hown, hts⟩ (cT_look l E h0 ([.ref ua, .int len, .int nx]) ua uf len nx rfl rfl (by assumption)) (cwV 1 hts (xb_gi (List.forall_mem_cons.mpr ⟨xk_176, List.forall_mem_cons.mpr ⟨xk_178, List.forall_mem_cons.mpr ⟨xk_5, List.forall_mem_cons.mpr ⟨xk_41, List.forall_mem_cons.mpr ⟨xk_179, fun _ h => absurd h List.not_mem_nil⟩⟩⟩⟩⟩)) rfl rfl rfl (by decide +kernel) ⟨Nat.le_of_ble_eq_true rfl, Nat.le_of_ble_eq_true rfl⟩) ⟨fun _ _ _ _ q => q, va_recv hK hP (ci := 1) (q0 := 0) rfl rfl, fun U hU hW => ⟨rfl, xb_atS hAt hS hA0 hU hW, by rw [hU]; exact hP.sub (ws' := [(h0, .inr (1, [.ref ua, .int len, .int nx])), (ua, .inl (cC, 200, .inl uf))]) [0, 1] rfl⟩⟩ rfl rfl hl.1 rfl (lv_room (Nat.le_of_ble_eq_true rfl)) dT_takeKind_5 ⟨Nat.zero_le _, Nat.zero_le _⟩) ?_
  refine xb_rd (W.runS (As := [.int (fT_look uf len nx)]) (rest := []) ⟨hx, hb, hml, hown, hts⟩ (cT_kindOf l E (fT_look uf len nx)) (cwS 1 hts (xb_gi (List.forall_mem_cons.mpr ⟨xk_180, List.forall_mem_cons.mpr ⟨xk_181, List.forall_mem_cons.mpr ⟨xk_41, List.forall_mem_cons.mpr ⟨xk_182, fun _ h => absurd h List.not_mem_nil⟩⟩⟩⟩)) rfl rfl rfl (by decide +kernel) ⟨Nat.le_of_ble_eq_true rfl, Nat.le_of_ble_eq_true rfl⟩) ⟨fun _ _ _ _ q => q, fun U hU hW => ⟨rfl, xb_atS hAt hS hA0 hU hW, fun k q h => by simp at h⟩⟩ rfl rfl hl.1 rfl (lv_room (Nat.le_of_ble_eq_true rfl)) dT_takeKind_8 ⟨Nat.zero_le _, Nat.zero_le _⟩) ?_
  refine lv_istore_n (lv' := [(1, .int (fT_kindOf (fT_look uf len nx))), (0, .ref h0)]) hx hb dT_takeKind_11 rfl hl (by decide) rfl (fun ls hl => ?_)
  refine lv_iload_n hx hb dT_takeKind_12 rfl (lv_at hl 0 rfl) ?_
  refine lv_iconst (v := (-1)) hx hb dT_takeKind_13 (by decide) ?_
  refine lv_icmp_eq (tgt := 27) hx hb dT_takeKind_14 (by decide) (fun c_2 => ?_) (fun c_2 => ?_)
  · refine lv_iload_n hx hb dT_takeKind_27 rfl (lv_at hl 0 rfl) ?_
    have e_0 : gT_takeKind uf len nx = (fT_kindOf (fT_look uf len nx)) := (if_pos c_2).trans (rfl)
    have e_1 : gT_takeKind_2 uf len nx = nx := (if_pos c_2).trans (rfl)
    have hP9 := hP.sub (ws' := [(h0, .inr (1, [.ref ua, .int len, .int nx])), (ua, .inl (cC, 200, .inl uf))]) [0, 1] rfl
    have hD9 := hD.sub (ws' := [(h0, .inr (1, [.ref ua, .int len, .int nx])), (ua, .inl (cC, 200, .inl uf))]) [0, 1] (by decide) rfl
    exact W.iret (v := (fT_kindOf (fT_look uf len nx))) hx hb hr (fun t ht hW => ⟨_, _, rfl, ⟨by first | rfl | (simp only [e_0, e_1]; try rfl), by first | rfl | (simp only [e_0, e_1]; try rfl)⟩, by rw [ht]; exact hP9, hD9, hS.F ht⟩) hS.2.2 dT_takeKind_28
  · refine lv_aload_n hx hb dT_takeKind_17 rfl (lv_at hl 1 rfl) ?_
    refine lv_dup hx hb dT_takeKind_18 rfl ?_
    refine va_get (D := (dC, dI)) (ci := 1) (v := .int nx) (C := xR_T) (T := xF_T) (N := 3) hx hb hts xi_T hown hK hP 0 rfl rfl 2 (by decide) (hts _ xk_78) (fun _ h9 => h9) rfl dT_takeKind_19 ?_
    refine lv_iconst (v := 1) hx hb dT_takeKind_22 (by decide) ?_
    refine lv_iadd hx hb dT_takeKind_23 ?_
    refine va_put (D := (dC, dI)) (ci := 1) (v := .int (nx + 1)) (ty := .int) (C := xR_T) (T := xF_T) (N := 3) hx hb hts xi_T xt_T xt_T_ok xn_T hown hK hP hD hS 0 rfl rfl 2 (by decide) (hts _ xk_78) (fun _ h9 => h9) rfl (by decide +kernel) rfl rfl (Nat.le_of_ble_eq_true rfl) dT_takeKind_24 (fun H locs hP hD hS => ?_)
    have hP : va_P (dC, dI) classes [(h0, .inr (1, [.ref ua, .int len, .int (nx + 1)])), (ua, .inl (cC, 200, .inl uf))] H := hP
    have hD : va_D A [(h0, .inr (1, [.ref ua, .int len, .int (nx + 1)])), (ua, .inl (cC, 200, .inl uf))] := hD
    refine lv_iload_n hx hb dT_takeKind_27 rfl (lv_at hl 0 rfl) ?_
    have e_0 : gT_takeKind uf len nx = (fT_kindOf (fT_look uf len nx)) := (if_neg c_2).trans (rfl)
    have e_1 : gT_takeKind_2 uf len nx = (nx + 1) := (if_neg c_2).trans (rfl)
    have hP9 := hP.sub (ws' := [(h0, .inr (1, [.ref ua, .int len, .int (nx + 1)])), (ua, .inl (cC, 200, .inl uf))]) [0, 1] rfl
    have hD9 := hD.sub (ws' := [(h0, .inr (1, [.ref ua, .int len, .int (nx + 1)])), (ua, .inl (cC, 200, .inl uf))]) [0, 1] (by decide) rfl
    exact W.iret (v := (fT_kindOf (fT_look uf len nx))) hx hb hr (fun t ht hW => ⟨_, _, rfl, ⟨by first | rfl | (simp only [e_0, e_1]; try rfl), by first | rfl | (simp only [e_0, e_1]; try rfl)⟩, by rw [ht]; exact hP9, hD9, hS.F ht⟩) hS.2.2 dT_takeKind_28

def gN_unit (uf : Nat → Int32) (len : Int32) (nx : Int32) (u : Int32) : Bool := (gT_append uf len nx u)
def gN_unit_1 (uf : Nat → Int32) (len : Int32) (nx : Int32) (u : Int32) : Int32 := gT_append_1 uf len nx u
def gN_unit_f (uf : Nat → Int32) (len : Int32) (nx : Int32) (u : Int32) : Nat → Int32 := gT_append_f uf len nx u
set_option maxHeartbeats 4000000 in
set_option maxRecDepth 100000 in
theorem cN_unit (l : Launch) {s0 : State} {dC : Nat → ClassId} {dI : Nat → Nat → Nat} {cI cC cL cO : ClassId} (E : xb_Env l s0 dC dI (xtys cI cC cL cO)) (sz : Nat) (h0 : Nat) (ta : Nat) (ua : Nat) (ra : Nat) (wet : Int32) (less : Int32) (px : Nat) (py : Nat) (pn : Int32) (qx : Nat) (qy : Nat) (qn : Int32) (ml : Nat) (len : Int32) (nx : Int32) (uf : Nat → Int32) (u : Int32) (hlen : 0 ≤ len) : Met l yN_unit [.code yN_unit bN_unit 2 (some (.boolean))] ({ frames := 1, cells := 0, slots := 0, locals := 21 }) (va_Pc [.ref h0, .int u] (fun U => xb_At s0 U ∧ U.heap.size = sz ∧ va_P (dC, dI) classes [(h0, .inr (0, [.ref ta, .ref ra, .int wet, .int less, .ref px, .ref py, .int pn, .ref qx, .ref qy, .int qn, .ref ml])), (ta, .inr (1, [.ref ua, .int len, .int nx])), (ua, .inl (cC, 200, .inl uf))] U.heap ∧ va_D (fun q => s0.heap.size ≤ q) [(h0, .inr (0, [.ref ta, .ref ra, .int wet, .int less, .ref px, .ref py, .int pn, .ref qx, .ref qy, .int qn, .ref ml])), (ta, .inr (1, [.ref ua, .int len, .int nx])), (ua, .inl (cC, 200, .inl uf))])) (xb_W (dC, dI) (fun v9 w9 => v9 = some (.int (xb_bi (gN_unit uf len nx u))) ∧ w9 = [(h0, .inr (0, [.ref ta, .ref ra, .int wet, .int less, .ref px, .ref py, .int pn, .ref qx, .ref qy, .int qn, .ref ml])), (ta, .inr (1, [.ref ua, .int (gN_unit_1 uf len nx u), .int nx])), (ua, .inl (cC, 200, .inl (gN_unit_f uf len nx u)))]) (va_A [(h0, .inr (0, [.ref ta, .ref ra, .int wet, .int less, .ref px, .ref py, .int pn, .ref qx, .ref qy, .int qn, .ref ml])), (ta, .inr (1, [.ref ua, .int len, .int nx])), (ua, .inl (cC, 200, .inl uf))] sz)) 0 0 (va_A [(h0, .inr (0, [.ref ta, .ref ra, .int wet, .int less, .ref px, .ref py, .int pn, .ref qx, .ref qy, .int qn, .ref ml])), (ta, .inr (1, [.ref ua, .int len, .int nx])), (ua, .inl (cC, 200, .inl uf))] sz) := by
  refine Met.ofW (cc := bN_unit) (maxL := 2) (ret := (some (.boolean))) (by decide) rfl ?_
  intro p e s m args below meth c s₁ B hml hv
  obtain ⟨rfl, hAt, hsz, hP, hD0⟩ := hv
  have hx := B.exec
  have hb := B.bytes
  have hr := B.returns
  have hts := xb_hts E hAt ([.ref h0, .int u] : List Value).toArray
  have hown : s.vm.findClass "NailRules" = some m.cls := findClass_of_methodNamed B.named
  have hlocks := B.notSynchronized
  have hK := xb_K E hAt
  subst hsz
  have hA0 := xb_A0 hAt hD0
  have hD := hD0.self (sz := s.heap.size)
  generalize hAe : va_A [(h0, .inr (0, [.ref ta, .ref ra, .int wet, .int less, .ref px, .ref py, .int pn, .ref qx, .ref qy, .int qn, .ref ml])), (ta, .inr (1, [.ref ua, .int len, .int nx])), (ua, .inl (cC, 200, .inl uf))] s.heap.size = A at hD hA0 ⊢
  have hA : ∀ q : Nat, s.heap.size ≤ q → A q := fun q h => by rw [← hAe]; exact Or.inr h
  have hS : va_S A s.heap s.heap [] := va_S.rf
  have hl := lv_entry ([.ref h0, .int u]) (n := 2) (Nat.le_of_ble_eq_true rfl)
  rw [lg_entry_eq]
  generalize (lg_sl ([.ref h0, .int u]) ++ List.replicate (2 - (lg_sl ([.ref h0, .int u])).length) Slot.unset).toArray = ls at hl ⊢
  have hl : lv_has ls 2 [(0, .ref h0), (1, .int u)] := hl
  refine lv_aload_n hx hb dN_unit_0 rfl (lv_at hl 0 rfl) ?_
  refine va_get (D := (dC, dI)) (ci := 0) (v := .ref ta) (C := xR_N) (T := xF_N) (N := 11) hx hb hts xi_N hown hK hP 0 rfl rfl 0 (by decide) (hts _ xk_114) (fun _ h9 => h9) rfl dN_unit_1 ?_
  refine lv_iload_n hx hb dN_unit_4 rfl (lv_at hl 1 rfl) ?_
  refine xb_wr (wr := [(h0, .inr (0, [.ref ta, .ref ra, .int wet, .int less, .ref px, .ref py, .int pn, .ref qx, .ref qy, .int qn, .ref ml]))]) (va_runVN (C := "NailRules$Text") (As := [.int u]) (rest := []) ⟨hx, hb, hml, hown, hts⟩ (cT_append l E _ ta ua len nx uf u (by assumption)) ⟨va_cnB 1 hts (xb_gi (List.forall_mem_cons.mpr ⟨xk_155, fun _ h => absurd h List.not_mem_nil⟩)) rfl rfl rfl (xb_nest E hAt xk_152) (hts _ xk_41) (by decide +kernel) ⟨Nat.le_of_ble_eq_true rfl, Nat.le_of_ble_eq_true rfl⟩, hts _ xk_154, hts _ xk_0⟩ ⟨fun _ _ _ _ q => q, va_recv hK hP (ci := 1) (q0 := 1) rfl rfl, fun U hU hW => ⟨rfl, xb_atS hAt hS hA0 hU hW, by rw [hU], by rw [hU]; exact hP.sub (ws' := [(ta, .inr (1, [.ref ua, .int len, .int nx])), (ua, .inl (cC, 200, .inl uf))]) [1, 2] rfl, (hD.sub (ws' := [(ta, .inr (1, [.ref ua, .int len, .int nx])), (ua, .inl (cC, 200, .inl uf))]) [1, 2] (by decide) rfl).weaken (fun _ q _ h => hA0 q.1 h)⟩⟩ rfl rfl hl.1 rfl (lv_room (Nat.le_of_ble_eq_true rfl)) dN_unit_5 ⟨Nat.le_of_ble_eq_true rfl, Nat.le_of_ble_eq_true rfl⟩) hP hD hS hA [1, 2] [0] rfl rfl (by decide) (by decide) ?_
  rintro _ _ H locs ⟨rfl, rfl⟩ hP hD hS
  have hP : va_P (dC, dI) classes [(h0, .inr (0, [.ref ta, .ref ra, .int wet, .int less, .ref px, .ref py, .int pn, .ref qx, .ref qy, .int qn, .ref ml])), (ta, .inr (1, [.ref ua, .int (gT_append_1 uf len nx u), .int nx])), (ua, .inl (cC, 200, .inl (gT_append_f uf len nx u)))] H := hP
  have hD : va_D A [(h0, .inr (0, [.ref ta, .ref ra, .int wet, .int less, .ref px, .ref py, .int pn, .ref qx, .ref qy, .int qn, .ref ml])), (ta, .inr (1, [.ref ua, .int (gT_append_1 uf len nx u), .int nx])), (ua, .inl (cC, 200, .inl (gT_append_f uf len nx u)))] := hD
  have e_0 : gN_unit uf len nx u = (gT_append uf len nx u) := rfl
  have e_1 : gN_unit_1 uf len nx u = (gT_append_1 uf len nx u) := rfl
  have e_2 : gN_unit_f uf len nx u = (gT_append_f uf len nx u) := rfl
  have hP9 := hP.sub (ws' := [(h0, .inr (0, [.ref ta, .ref ra, .int wet, .int less, .ref px, .ref py, .int pn, .ref qx, .ref qy, .int qn, .ref ml])), (ta, .inr (1, [.ref ua, .int (gT_append_1 uf len nx u), .int nx])), (ua, .inl (cC, 200, .inl (gT_append_f uf len nx u)))]) [0, 1, 2] rfl
  have hD9 := hD.sub (ws' := [(h0, .inr (0, [.ref ta, .ref ra, .int wet, .int less, .ref px, .ref py, .int pn, .ref qx, .ref qy, .int qn, .ref ml])), (ta, .inr (1, [.ref ua, .int (gT_append_1 uf len nx u), .int nx])), (ua, .inl (cC, 200, .inl (gT_append_f uf len nx u)))]) [0, 1, 2] (by decide) rfl
  exact W.zret (v := (xb_bi (gT_append uf len nx u))) hx hb hr (xb_bi_n _) (fun t ht hW => ⟨_, _, rfl, ⟨by first | rfl | (simp only [e_0, e_1, e_2]; try rfl), by first | rfl | (simp only [e_0, e_1, e_2]; try rfl)⟩, by rw [ht]; exact hP9, hD9, hS.F ht⟩) hS.2.2 dN_unit_8

def gN_clear_9  : Int32 := (0)
set_option maxHeartbeats 4000000 in
set_option maxRecDepth 100000 in
theorem cN_clear (l : Launch) {s0 : State} {dC : Nat → ClassId} {dI : Nat → Nat → Nat} {cI cC cL cO : ClassId} (E : xb_Env l s0 dC dI (xtys cI cC cL cO)) (sz : Nat) (h0 : Nat) (ta : Nat) (ra : Nat) (wet : Int32) (less : Int32) (px : Nat) (py : Nat) (pn : Int32) (qx : Nat) (qy : Nat) (qn : Int32) (ml : Nat) : Met l yN_clear [.code yN_clear bN_clear 1 none] ({ frames := 0, cells := 0, slots := 0, locals := 0 }) (va_Pc [.ref h0] (fun U => xb_At s0 U ∧ U.heap.size = sz ∧ va_P (dC, dI) classes [(h0, .inr (0, [.ref ta, .ref ra, .int wet, .int less, .ref px, .ref py, .int pn, .ref qx, .ref qy, .int qn, .ref ml]))] U.heap ∧ va_D (fun q => s0.heap.size ≤ q) [(h0, .inr (0, [.ref ta, .ref ra, .int wet, .int less, .ref px, .ref py, .int pn, .ref qx, .ref qy, .int qn, .ref ml]))])) (xb_W (dC, dI) (fun v9 w9 => v9 = none ∧ w9 = [(h0, .inr (0, [.ref ta, .ref ra, .int wet, .int less, .ref px, .ref py, .int pn, .ref qx, .ref qy, .int (gN_clear_9 ), .ref ml]))]) (va_A [(h0, .inr (0, [.ref ta, .ref ra, .int wet, .int less, .ref px, .ref py, .int pn, .ref qx, .ref qy, .int qn, .ref ml]))] sz)) 0 0 (va_A [(h0, .inr (0, [.ref ta, .ref ra, .int wet, .int less, .ref px, .ref py, .int pn, .ref qx, .ref qy, .int qn, .ref ml]))] sz) := by
  refine Met.ofW (cc := bN_clear) (maxL := 1) (ret := none) (by decide) rfl ?_
  intro p e s m args below meth c s₁ B hml hv
  obtain ⟨rfl, hAt, hsz, hP, hD0⟩ := hv
  have hx := B.exec
  have hb := B.bytes
  have hr := B.returns
  have hts := xb_hts E hAt ([.ref h0] : List Value).toArray
  have hown : s.vm.findClass "NailRules" = some m.cls := findClass_of_methodNamed B.named
  have hlocks := B.notSynchronized
  have hK := xb_K E hAt
  subst hsz
  have hA0 := xb_A0 hAt hD0
  have hD := hD0.self (sz := s.heap.size)
  generalize hAe : va_A [(h0, .inr (0, [.ref ta, .ref ra, .int wet, .int less, .ref px, .ref py, .int pn, .ref qx, .ref qy, .int qn, .ref ml]))] s.heap.size = A at hD hA0 ⊢
  have hA : ∀ q : Nat, s.heap.size ≤ q → A q := fun q h => by rw [← hAe]; exact Or.inr h
  have hS : va_S A s.heap s.heap [] := va_S.rf
  have hl := lv_entry ([.ref h0]) (n := 1) (Nat.le_of_ble_eq_true rfl)
  rw [lg_entry_eq]
  generalize (lg_sl ([.ref h0]) ++ List.replicate (1 - (lg_sl ([.ref h0])).length) Slot.unset).toArray = ls at hl ⊢
  have hl : lv_has ls 1 [(0, .ref h0)] := hl
  refine lv_aload_n hx hb dN_clear_0 rfl (lv_at hl 0 rfl) ?_
  refine lv_iconst (v := 0) hx hb dN_clear_1 (by decide) ?_
  refine va_put (D := (dC, dI)) (ci := 0) (v := .int 0) (ty := .int) (C := xR_N) (T := xF_N) (N := 11) hx hb hts xi_N xt_N xt_N_ok xn_N hown hK hP hD hS 0 rfl rfl 9 (by decide) (hts _ xk_123) (fun _ h9 => h9) rfl (by decide +kernel) rfl rfl (Nat.le_of_ble_eq_true rfl) dN_clear_2 (fun H locs hP hD hS => ?_)
  have hP : va_P (dC, dI) classes [(h0, .inr (0, [.ref ta, .ref ra, .int wet, .int less, .ref px, .ref py, .int pn, .ref qx, .ref qy, .int 0, .ref ml]))] H := hP
  have hD : va_D A [(h0, .inr (0, [.ref ta, .ref ra, .int wet, .int less, .ref px, .ref py, .int pn, .ref qx, .ref qy, .int 0, .ref ml]))] := hD
  have e_0 : gN_clear_9  = (0 : Int32) := rfl
  have hP9 := hP.sub (ws' := [(h0, .inr (0, [.ref ta, .ref ra, .int wet, .int less, .ref px, .ref py, .int pn, .ref qx, .ref qy, .int 0, .ref ml]))]) [0] rfl
  have hD9 := hD.sub (ws' := [(h0, .inr (0, [.ref ta, .ref ra, .int wet, .int less, .ref px, .ref py, .int pn, .ref qx, .ref qy, .int 0, .ref ml]))]) [0] (by decide) rfl
  exact W.vret hx hb hr (fun t ht hW => ⟨_, _, rfl, ⟨by first | rfl | (simp only [e_0]; try rfl), by first | rfl | (simp only [e_0]; try rfl)⟩, by rw [ht]; exact hP9, hD9, hS.F ht⟩) hS.2.2 dN_clear_5

def gN_set_2 (wet : Int32) (less : Int32) (what : Int32) (pct : Int32) : Int32 := if what = 0 then (pct) else (wet)
def gN_set_3 (wet : Int32) (less : Int32) (what : Int32) (pct : Int32) : Int32 := if what = 0 then (less) else (pct)
set_option maxHeartbeats 4000000 in
set_option maxRecDepth 100000 in
theorem cN_set (l : Launch) {s0 : State} {dC : Nat → ClassId} {dI : Nat → Nat → Nat} {cI cC cL cO : ClassId} (E : xb_Env l s0 dC dI (xtys cI cC cL cO)) (sz : Nat) (h0 : Nat) (ta : Nat) (ra : Nat) (wet : Int32) (less : Int32) (px : Nat) (py : Nat) (pn : Int32) (qx : Nat) (qy : Nat) (qn : Int32) (ml : Nat) (what : Int32) (pct : Int32) (w1 : ¬ what < 0) (w2 : what < 2) (p1 : ¬ pct.toInt64 < (if what = 0 then (1 : Int64) else 0)) (p2 : pct.toInt64 ≤ 100) : Met l yN_set [.code yN_set bN_set 3 none] ({ frames := 1, cells := 0, slots := 0, locals := 25 }) (va_Pc [.ref h0, .int what, .int pct] (fun U => xb_At s0 U ∧ U.heap.size = sz ∧ va_P (dC, dI) classes [(h0, .inr (0, [.ref ta, .ref ra, .int wet, .int less, .ref px, .ref py, .int pn, .ref qx, .ref qy, .int qn, .ref ml]))] U.heap ∧ va_D (fun q => s0.heap.size ≤ q) [(h0, .inr (0, [.ref ta, .ref ra, .int wet, .int less, .ref px, .ref py, .int pn, .ref qx, .ref qy, .int qn, .ref ml]))])) (xb_W (dC, dI) (fun v9 w9 => v9 = none ∧ w9 = [(h0, .inr (0, [.ref ta, .ref ra, .int (gN_set_2 wet less what pct), .int (gN_set_3 wet less what pct), .ref px, .ref py, .int pn, .ref qx, .ref qy, .int qn, .ref ml]))]) (va_A [(h0, .inr (0, [.ref ta, .ref ra, .int wet, .int less, .ref px, .ref py, .int pn, .ref qx, .ref qy, .int qn, .ref ml]))] sz)) 0 0 (va_A [(h0, .inr (0, [.ref ta, .ref ra, .int wet, .int less, .ref px, .ref py, .int pn, .ref qx, .ref qy, .int qn, .ref ml]))] sz) := by
  refine Met.ofW (cc := bN_set) (maxL := 3) (ret := none) (by decide) rfl ?_
  intro p e s m args below meth c s₁ B hml hv
  obtain ⟨rfl, hAt, hsz, hP, hD0⟩ := hv
  have hx := B.exec
  have hb := B.bytes
  have hr := B.returns
  have hts := xb_hts E hAt ([.ref h0, .int what, .int pct] : List Value).toArray
  have hown : s.vm.findClass "NailRules" = some m.cls := findClass_of_methodNamed B.named
  have hlocks := B.notSynchronized
  have hK := xb_K E hAt
  subst hsz
  have hA0 := xb_A0 hAt hD0
  have hD := hD0.self (sz := s.heap.size)
  generalize hAe : va_A [(h0, .inr (0, [.ref ta, .ref ra, .int wet, .int less, .ref px, .ref py, .int pn, .ref qx, .ref qy, .int qn, .ref ml]))] s.heap.size = A at hD hA0 ⊢
  have hA : ∀ q : Nat, s.heap.size ≤ q → A q := fun q h => by rw [← hAe]; exact Or.inr h
  have hS : va_S A s.heap s.heap [] := va_S.rf
  have hl := lv_entry ([.ref h0, .int what, .int pct]) (n := 3) (Nat.le_of_ble_eq_true rfl)
  rw [lg_entry_eq]
  generalize (lg_sl ([.ref h0, .int what, .int pct]) ++ List.replicate (3 - (lg_sl ([.ref h0, .int what, .int pct])).length) Slot.unset).toArray = ls at hl ⊢
  have hl : lv_has ls 3 [(0, .ref h0), (1, .int what), (2, .int pct)] := hl
  refine lv_iload_n hx hb dN_set_0 rfl (lv_at hl 1 rfl) ?_
  refine lv_iconst (v := 2) hx hb dN_set_1 (by decide) ?_
  refine xb_rd (W.runS (As := [.int what, .int 2]) (rest := []) ⟨hx, hb, hml, hown, hts⟩ (cN_requireIndex l E what 2 (by assumption) (by assumption)) (cwS 2 hts (xb_gi (List.forall_mem_cons.mpr ⟨xk_288, List.forall_mem_cons.mpr ⟨xk_289, List.forall_mem_cons.mpr ⟨xk_40, List.forall_mem_cons.mpr ⟨xk_290, fun _ h => absurd h List.not_mem_nil⟩⟩⟩⟩)) rfl rfl rfl (by decide +kernel) ⟨Nat.le_of_ble_eq_true rfl, Nat.le_of_ble_eq_true rfl⟩) ⟨fun _ _ _ _ q => q, fun U hU hW => ⟨rfl, xb_atS hAt hS hA0 hU hW, fun k q h => by simp at h⟩⟩ rfl rfl hl.1 rfl (lv_room (Nat.le_of_ble_eq_true rfl)) dN_set_2 ⟨Nat.zero_le _, Nat.zero_le _⟩) ?_
  refine lv_iload_n hx hb dN_set_5 rfl (lv_at hl 1 rfl) ?_
  refine lv_if_ne (tgt := 26) hx hb dN_set_6 (by decide) (fun c_1 => ?_) (fun c_1 => ?_)
  · refine lv_iload_n hx hb dN_set_26 rfl (lv_at hl 2 rfl) ?_
    refine lv_i2l hx hb dN_set_27 rfl ?_
    refine lv_lconst (v := 0) hx hb dN_set_28 (by decide) ?_
    refine lv_ldc2 (v := 100) hx hb hown (hts _ xk_370) dN_set_29 ?_
    refine xb_rd (W.runS (As := [.long pct.toInt64, .long 0, .long 100]) (rest := []) ⟨hx, hb, hml, hown, hts⟩ (cN_requireWithin l E pct.toInt64 0 100 (by rw [if_neg (by assumption)] at p1; exact p1) (by assumption)) (cwS 3 hts (xb_gi (List.forall_mem_cons.mpr ⟨xk_371, List.forall_mem_cons.mpr ⟨xk_372, List.forall_mem_cons.mpr ⟨xk_40, List.forall_mem_cons.mpr ⟨xk_373, fun _ h => absurd h List.not_mem_nil⟩⟩⟩⟩)) rfl rfl rfl (by decide +kernel) ⟨Nat.le_of_ble_eq_true rfl, Nat.le_of_ble_eq_true rfl⟩) ⟨fun _ _ _ _ q => q, fun U hU hW => ⟨rfl, xb_atS hAt hS hA0 hU hW, fun k q h => by simp at h⟩⟩ rfl rfl hl.1 rfl (lv_room (Nat.le_of_ble_eq_true rfl)) dN_set_32 ⟨Nat.zero_le _, Nat.zero_le _⟩) ?_
    refine lv_aload_n hx hb dN_set_35 rfl (lv_at hl 0 rfl) ?_
    refine lv_iload_n hx hb dN_set_36 rfl (lv_at hl 2 rfl) ?_
    refine va_put (D := (dC, dI)) (ci := 0) (v := .int pct) (ty := .int) (C := xR_N) (T := xF_N) (N := 11) hx hb hts xi_N xt_N xt_N_ok xn_N hown hK hP hD hS 0 rfl rfl 3 (by decide) (hts _ xk_117) (fun _ h9 => h9) rfl (by decide +kernel) rfl rfl (Nat.le_of_ble_eq_true rfl) dN_set_37 (fun H locs hP hD hS => ?_)
    have hP : va_P (dC, dI) classes [(h0, .inr (0, [.ref ta, .ref ra, .int wet, .int pct, .ref px, .ref py, .int pn, .ref qx, .ref qy, .int qn, .ref ml]))] H := hP
    have hD : va_D A [(h0, .inr (0, [.ref ta, .ref ra, .int wet, .int pct, .ref px, .ref py, .int pn, .ref qx, .ref qy, .int qn, .ref ml]))] := hD
    have e_0 : gN_set_2 wet less what pct = wet := (if_neg c_1).trans (rfl)
    have e_1 : gN_set_3 wet less what pct = pct := (if_neg c_1).trans (rfl)
    have hP9 := hP.sub (ws' := [(h0, .inr (0, [.ref ta, .ref ra, .int wet, .int pct, .ref px, .ref py, .int pn, .ref qx, .ref qy, .int qn, .ref ml]))]) [0] rfl
    have hD9 := hD.sub (ws' := [(h0, .inr (0, [.ref ta, .ref ra, .int wet, .int pct, .ref px, .ref py, .int pn, .ref qx, .ref qy, .int qn, .ref ml]))]) [0] (by decide) rfl
    exact W.vret hx hb hr (fun t ht hW => ⟨_, _, rfl, ⟨by first | rfl | (simp only [e_0, e_1]; try rfl), by first | rfl | (simp only [e_0, e_1]; try rfl)⟩, by rw [ht]; exact hP9, hD9, hS.F ht⟩) hS.2.2 dN_set_40
  · refine lv_iload_n hx hb dN_set_9 rfl (lv_at hl 2 rfl) ?_
    refine lv_i2l hx hb dN_set_10 rfl ?_
    refine lv_lconst (v := 1) hx hb dN_set_11 (by decide) ?_
    refine lv_ldc2 (v := 100) hx hb hown (hts _ xk_370) dN_set_12 ?_
    refine xb_rd (W.runS (As := [.long pct.toInt64, .long 1, .long 100]) (rest := []) ⟨hx, hb, hml, hown, hts⟩ (cN_requireWithin l E pct.toInt64 1 100 (by rw [if_pos (by assumption)] at p1; exact p1) (by assumption)) (cwS 3 hts (xb_gi (List.forall_mem_cons.mpr ⟨xk_371, List.forall_mem_cons.mpr ⟨xk_372, List.forall_mem_cons.mpr ⟨xk_40, List.forall_mem_cons.mpr ⟨xk_373, fun _ h => absurd h List.not_mem_nil⟩⟩⟩⟩)) rfl rfl rfl (by decide +kernel) ⟨Nat.le_of_ble_eq_true rfl, Nat.le_of_ble_eq_true rfl⟩) ⟨fun _ _ _ _ q => q, fun U hU hW => ⟨rfl, xb_atS hAt hS hA0 hU hW, fun k q h => by simp at h⟩⟩ rfl rfl hl.1 rfl (lv_room (Nat.le_of_ble_eq_true rfl)) dN_set_15 ⟨Nat.zero_le _, Nat.zero_le _⟩) ?_
    refine lv_aload_n hx hb dN_set_18 rfl (lv_at hl 0 rfl) ?_
    refine lv_iload_n hx hb dN_set_19 rfl (lv_at hl 2 rfl) ?_
    refine va_put (D := (dC, dI)) (ci := 0) (v := .int pct) (ty := .int) (C := xR_N) (T := xF_N) (N := 11) hx hb hts xi_N xt_N xt_N_ok xn_N hown hK hP hD hS 0 rfl rfl 2 (by decide) (hts _ xk_116) (fun _ h9 => h9) rfl (by decide +kernel) rfl rfl (Nat.le_of_ble_eq_true rfl) dN_set_20 (fun H locs hP hD hS => ?_)
    have hP : va_P (dC, dI) classes [(h0, .inr (0, [.ref ta, .ref ra, .int pct, .int less, .ref px, .ref py, .int pn, .ref qx, .ref qy, .int qn, .ref ml]))] H := hP
    have hD : va_D A [(h0, .inr (0, [.ref ta, .ref ra, .int pct, .int less, .ref px, .ref py, .int pn, .ref qx, .ref qy, .int qn, .ref ml]))] := hD
    refine lv_goto (tgt := 40) hx hb dN_set_23 (by decide) ?_
    have e_0 : gN_set_2 wet less what pct = pct := (if_pos c_1).trans (rfl)
    have e_1 : gN_set_3 wet less what pct = less := (if_pos c_1).trans (rfl)
    have hP9 := hP.sub (ws' := [(h0, .inr (0, [.ref ta, .ref ra, .int pct, .int less, .ref px, .ref py, .int pn, .ref qx, .ref qy, .int qn, .ref ml]))]) [0] rfl
    have hD9 := hD.sub (ws' := [(h0, .inr (0, [.ref ta, .ref ra, .int pct, .int less, .ref px, .ref py, .int pn, .ref qx, .ref qy, .int qn, .ref ml]))]) [0] (by decide) rfl
    exact W.vret hx hb hr (fun t ht hW => ⟨_, _, rfl, ⟨by first | rfl | (simp only [e_0, e_1]; try rfl), by first | rfl | (simp only [e_0, e_1]; try rfl)⟩, by rw [ht]; exact hP9, hD9, hS.F ht⟩) hS.2.2 dN_set_40

def gN_place (xf : Nat → Int32) (yf : Nat → Int32) (qn : Int32) (x : Int32) (y : Int32) : Int32 := qn + 1
def gN_place_9 (xf : Nat → Int32) (yf : Nat → Int32) (qn : Int32) (x : Int32) (y : Int32) : Int32 := qn + 1
def gN_place_x (xf : Nat → Int32) (yf : Nat → Int32) (qn : Int32) (x : Int32) (y : Int32) : Nat → Int32 := upd xf qn.toNatClampNeg x
def gN_place_y (xf : Nat → Int32) (yf : Nat → Int32) (qn : Int32) (x : Int32) (y : Int32) : Nat → Int32 := upd yf qn.toNatClampNeg y
set_option maxHeartbeats 4000000 in
set_option maxRecDepth 100000 in
theorem cN_place (l : Launch) {s0 : State} {dC : Nat → ClassId} {dI : Nat → Nat → Nat} {cI cC cL cO : ClassId} (E : xb_Env l s0 dC dI (xtys cI cC cL cO)) (sz : Nat) (h0 : Nat) (qx : Nat) (qy : Nat) (ta : Nat) (ra : Nat) (wet : Int32) (less : Int32) (px : Nat) (py : Nat) (pn : Int32) (qn : Int32) (ml : Nat) (xf : Nat → Int32) (yf : Nat → Int32) (x : Int32) (y : Int32) (x1 : ¬ x.toInt64 < 0) (x2 : x.toInt64 ≤ 100000) (y1 : ¬ y.toInt64 < 0) (y2 : y.toInt64 ≤ 100000) (q0 : 0 ≤ qn) (q1 : qn < 32) : Met l yN_place [.code yN_place bN_place 3 (some (.int))] ({ frames := 1, cells := 0, slots := 0, locals := 25 }) (va_Pc [.ref h0, .int x, .int y] (fun U => xb_At s0 U ∧ U.heap.size = sz ∧ va_P (dC, dI) classes [(h0, .inr (0, [.ref ta, .ref ra, .int wet, .int less, .ref px, .ref py, .int pn, .ref qx, .ref qy, .int qn, .ref ml])), (qx, .inl (cI, 32, .inl xf)), (qy, .inl (cI, 32, .inl yf))] U.heap ∧ va_D (fun q => s0.heap.size ≤ q) [(h0, .inr (0, [.ref ta, .ref ra, .int wet, .int less, .ref px, .ref py, .int pn, .ref qx, .ref qy, .int qn, .ref ml])), (qx, .inl (cI, 32, .inl xf)), (qy, .inl (cI, 32, .inl yf))])) (xb_W (dC, dI) (fun v9 w9 => v9 = some (.int (gN_place xf yf qn x y)) ∧ w9 = [(h0, .inr (0, [.ref ta, .ref ra, .int wet, .int less, .ref px, .ref py, .int pn, .ref qx, .ref qy, .int (gN_place_9 xf yf qn x y), .ref ml])), (qx, .inl (cI, 32, .inl (gN_place_x xf yf qn x y))), (qy, .inl (cI, 32, .inl (gN_place_y xf yf qn x y)))]) (va_A [(h0, .inr (0, [.ref ta, .ref ra, .int wet, .int less, .ref px, .ref py, .int pn, .ref qx, .ref qy, .int qn, .ref ml])), (qx, .inl (cI, 32, .inl xf)), (qy, .inl (cI, 32, .inl yf))] sz)) 0 0 (va_A [(h0, .inr (0, [.ref ta, .ref ra, .int wet, .int less, .ref px, .ref py, .int pn, .ref qx, .ref qy, .int qn, .ref ml])), (qx, .inl (cI, 32, .inl xf)), (qy, .inl (cI, 32, .inl yf))] sz) := by
  refine Met.ofW (cc := bN_place) (maxL := 3) (ret := (some (.int))) (by decide) rfl ?_
  intro p e s m args below meth c s₁ B hml hv
  obtain ⟨rfl, hAt, hsz, hP, hD0⟩ := hv
  have hx := B.exec
  have hb := B.bytes
  have hr := B.returns
  have hts := xb_hts E hAt ([.ref h0, .int x, .int y] : List Value).toArray
  have hown : s.vm.findClass "NailRules" = some m.cls := findClass_of_methodNamed B.named
  have hlocks := B.notSynchronized
  have hK := xb_K E hAt
  subst hsz
  have hA0 := xb_A0 hAt hD0
  have hD := hD0.self (sz := s.heap.size)
  generalize hAe : va_A [(h0, .inr (0, [.ref ta, .ref ra, .int wet, .int less, .ref px, .ref py, .int pn, .ref qx, .ref qy, .int qn, .ref ml])), (qx, .inl (cI, 32, .inl xf)), (qy, .inl (cI, 32, .inl yf))] s.heap.size = A at hD hA0 ⊢
  have hA : ∀ q : Nat, s.heap.size ≤ q → A q := fun q h => by rw [← hAe]; exact Or.inr h
  have hS : va_S A s.heap s.heap [] := va_S.rf
  have hl := lv_entry ([.ref h0, .int x, .int y]) (n := 3) (Nat.le_of_ble_eq_true rfl)
  rw [lg_entry_eq]
  generalize (lg_sl ([.ref h0, .int x, .int y]) ++ List.replicate (3 - (lg_sl ([.ref h0, .int x, .int y])).length) Slot.unset).toArray = ls at hl ⊢
  have hl : lv_has ls 3 [(0, .ref h0), (1, .int x), (2, .int y)] := hl
  refine lv_iload_n hx hb dN_place_0 rfl (lv_at hl 1 rfl) ?_
  refine lv_i2l hx hb dN_place_1 rfl ?_
  refine lv_lconst (v := 0) hx hb dN_place_2 (by decide) ?_
  refine lv_ldc2 (v := 100000) hx hb hown (hts _ xk_437) dN_place_3 ?_
  refine xb_rd (W.runS (As := [.long x.toInt64, .long 0, .long 100000]) (rest := []) ⟨hx, hb, hml, hown, hts⟩ (cN_requireWithin l E x.toInt64 0 100000 (by assumption) (by assumption)) (cwS 3 hts (xb_gi (List.forall_mem_cons.mpr ⟨xk_371, List.forall_mem_cons.mpr ⟨xk_372, List.forall_mem_cons.mpr ⟨xk_40, List.forall_mem_cons.mpr ⟨xk_373, fun _ h => absurd h List.not_mem_nil⟩⟩⟩⟩)) rfl rfl rfl (by decide +kernel) ⟨Nat.le_of_ble_eq_true rfl, Nat.le_of_ble_eq_true rfl⟩) ⟨fun _ _ _ _ q => q, fun U hU hW => ⟨rfl, xb_atS hAt hS hA0 hU hW, fun k q h => by simp at h⟩⟩ rfl rfl hl.1 rfl (lv_room (Nat.le_of_ble_eq_true rfl)) dN_place_6 ⟨Nat.zero_le _, Nat.zero_le _⟩) ?_
  refine lv_iload_n hx hb dN_place_9 rfl (lv_at hl 2 rfl) ?_
  refine lv_i2l hx hb dN_place_10 rfl ?_
  refine lv_lconst (v := 0) hx hb dN_place_11 (by decide) ?_
  refine lv_ldc2 (v := 100000) hx hb hown (hts _ xk_437) dN_place_12 ?_
  refine xb_rd (W.runS (As := [.long y.toInt64, .long 0, .long 100000]) (rest := []) ⟨hx, hb, hml, hown, hts⟩ (cN_requireWithin l E y.toInt64 0 100000 (by assumption) (by assumption)) (cwS 3 hts (xb_gi (List.forall_mem_cons.mpr ⟨xk_371, List.forall_mem_cons.mpr ⟨xk_372, List.forall_mem_cons.mpr ⟨xk_40, List.forall_mem_cons.mpr ⟨xk_373, fun _ h => absurd h List.not_mem_nil⟩⟩⟩⟩)) rfl rfl rfl (by decide +kernel) ⟨Nat.le_of_ble_eq_true rfl, Nat.le_of_ble_eq_true rfl⟩) ⟨fun _ _ _ _ q => q, fun U hU hW => ⟨rfl, xb_atS hAt hS hA0 hU hW, fun k q h => by simp at h⟩⟩ rfl rfl hl.1 rfl (lv_room (Nat.le_of_ble_eq_true rfl)) dN_place_15 ⟨Nat.zero_le _, Nat.zero_le _⟩) ?_
  refine lv_aload_n hx hb dN_place_18 rfl (lv_at hl 0 rfl) ?_
  refine va_get (D := (dC, dI)) (ci := 0) (v := .int qn) (C := xR_N) (T := xF_N) (N := 11) hx hb hts xi_N hown hK hP 0 rfl rfl 9 (by decide) (hts _ xk_123) (fun _ h9 => h9) rfl dN_place_19 ?_
  refine lv_bipush (v := 32) hx hb dN_place_22 (by decide) ?_
  refine lv_icmp_lt (tgt := 37) hx hb dN_place_24 (by decide) (fun c_1 => ?_) (fun c_1 => ?_)
  · refine lv_aload_n hx hb dN_place_37 rfl (lv_at hl 0 rfl) ?_
    refine va_get (D := (dC, dI)) (ci := 0) (v := .ref qx) (C := xR_N) (T := xF_N) (N := 11) hx hb hts xi_N hown hK hP 0 rfl rfl 7 (by decide) (hts _ xk_121) (fun _ h9 => h9) rfl dN_place_38 ?_
    refine lv_aload_n hx hb dN_place_41 rfl (lv_at hl 0 rfl) ?_
    refine va_get (D := (dC, dI)) (ci := 0) (v := .int qn) (C := xR_N) (T := xF_N) (N := 11) hx hb hts xi_N hown hK hP 0 rfl rfl 9 (by decide) (hts _ xk_123) (fun _ h9 => h9) rfl dN_place_42 ?_
    refine lv_iload_n hx hb dN_place_45 rfl (lv_at hl 1 rfl) ?_
    have o_2 : vp_in qn 32 := by exact xp_lt (by decide) q0 q1
    refine va_iast hx hb hK hP hD hS 1 0 rfl rfl o_2 dN_place_46 (fun H locs hP hD hS => ?_)
    have hP : va_P (dC, dI) classes [(h0, .inr (0, [.ref ta, .ref ra, .int wet, .int less, .ref px, .ref py, .int pn, .ref qx, .ref qy, .int qn, .ref ml])), (qx, .inl (cI, 32, .inl (upd xf qn.toNatClampNeg x))), (qy, .inl (cI, 32, .inl yf))] H := hP
    have hD : va_D A [(h0, .inr (0, [.ref ta, .ref ra, .int wet, .int less, .ref px, .ref py, .int pn, .ref qx, .ref qy, .int qn, .ref ml])), (qx, .inl (cI, 32, .inl (upd xf qn.toNatClampNeg x))), (qy, .inl (cI, 32, .inl yf))] := hD
    refine lv_aload_n hx hb dN_place_47 rfl (lv_at hl 0 rfl) ?_
    refine va_get (D := (dC, dI)) (ci := 0) (v := .ref qy) (C := xR_N) (T := xF_N) (N := 11) hx hb hts xi_N hown hK hP 0 rfl rfl 8 (by decide) (hts _ xk_122) (fun _ h9 => h9) rfl dN_place_48 ?_
    refine lv_aload_n hx hb dN_place_51 rfl (lv_at hl 0 rfl) ?_
    refine va_get (D := (dC, dI)) (ci := 0) (v := .int qn) (C := xR_N) (T := xF_N) (N := 11) hx hb hts xi_N hown hK hP 0 rfl rfl 9 (by decide) (hts _ xk_123) (fun _ h9 => h9) rfl dN_place_52 ?_
    refine lv_iload_n hx hb dN_place_55 rfl (lv_at hl 2 rfl) ?_
    have o_3 : vp_in qn 32 := by exact xp_lt (by decide) q0 q1
    refine va_iast hx hb hK hP hD hS 2 0 rfl rfl o_3 dN_place_56 (fun H locs hP hD hS => ?_)
    have hP : va_P (dC, dI) classes [(h0, .inr (0, [.ref ta, .ref ra, .int wet, .int less, .ref px, .ref py, .int pn, .ref qx, .ref qy, .int qn, .ref ml])), (qx, .inl (cI, 32, .inl (upd xf qn.toNatClampNeg x))), (qy, .inl (cI, 32, .inl (upd yf qn.toNatClampNeg y)))] H := hP
    have hD : va_D A [(h0, .inr (0, [.ref ta, .ref ra, .int wet, .int less, .ref px, .ref py, .int pn, .ref qx, .ref qy, .int qn, .ref ml])), (qx, .inl (cI, 32, .inl (upd xf qn.toNatClampNeg x))), (qy, .inl (cI, 32, .inl (upd yf qn.toNatClampNeg y)))] := hD
    refine lv_aload_n hx hb dN_place_57 rfl (lv_at hl 0 rfl) ?_
    refine lv_dup hx hb dN_place_58 rfl ?_
    refine va_get (D := (dC, dI)) (ci := 0) (v := .int qn) (C := xR_N) (T := xF_N) (N := 11) hx hb hts xi_N hown hK hP 0 rfl rfl 9 (by decide) (hts _ xk_123) (fun _ h9 => h9) rfl dN_place_59 ?_
    refine lv_iconst (v := 1) hx hb dN_place_62 (by decide) ?_
    refine lv_iadd hx hb dN_place_63 ?_
    refine va_put (D := (dC, dI)) (ci := 0) (v := .int (qn + 1)) (ty := .int) (C := xR_N) (T := xF_N) (N := 11) hx hb hts xi_N xt_N xt_N_ok xn_N hown hK hP hD hS 0 rfl rfl 9 (by decide) (hts _ xk_123) (fun _ h9 => h9) rfl (by decide +kernel) rfl rfl (Nat.le_of_ble_eq_true rfl) dN_place_64 (fun H locs hP hD hS => ?_)
    have hP : va_P (dC, dI) classes [(h0, .inr (0, [.ref ta, .ref ra, .int wet, .int less, .ref px, .ref py, .int pn, .ref qx, .ref qy, .int (qn + 1), .ref ml])), (qx, .inl (cI, 32, .inl (upd xf qn.toNatClampNeg x))), (qy, .inl (cI, 32, .inl (upd yf qn.toNatClampNeg y)))] H := hP
    have hD : va_D A [(h0, .inr (0, [.ref ta, .ref ra, .int wet, .int less, .ref px, .ref py, .int pn, .ref qx, .ref qy, .int (qn + 1), .ref ml])), (qx, .inl (cI, 32, .inl (upd xf qn.toNatClampNeg x))), (qy, .inl (cI, 32, .inl (upd yf qn.toNatClampNeg y)))] := hD
    refine lv_aload_n hx hb dN_place_67 rfl (lv_at hl 0 rfl) ?_
    refine va_get (D := (dC, dI)) (ci := 0) (v := .int (qn + 1)) (C := xR_N) (T := xF_N) (N := 11) hx hb hts xi_N hown hK hP 0 rfl rfl 9 (by decide) (hts _ xk_123) (fun _ h9 => h9) rfl dN_place_68 ?_
    have e_0 : gN_place xf yf qn x y = (qn + 1) := rfl
    have e_1 : gN_place_9 xf yf qn x y = (qn + 1) := rfl
    have e_2 : gN_place_x xf yf qn x y = (upd xf qn.toNatClampNeg x) := rfl
    have e_3 : gN_place_y xf yf qn x y = (upd yf qn.toNatClampNeg y) := rfl
    have hP9 := hP.sub (ws' := [(h0, .inr (0, [.ref ta, .ref ra, .int wet, .int less, .ref px, .ref py, .int pn, .ref qx, .ref qy, .int (qn + 1), .ref ml])), (qx, .inl (cI, 32, .inl (upd xf qn.toNatClampNeg x))), (qy, .inl (cI, 32, .inl (upd yf qn.toNatClampNeg y)))]) [0, 1, 2] rfl
    have hD9 := hD.sub (ws' := [(h0, .inr (0, [.ref ta, .ref ra, .int wet, .int less, .ref px, .ref py, .int pn, .ref qx, .ref qy, .int (qn + 1), .ref ml])), (qx, .inl (cI, 32, .inl (upd xf qn.toNatClampNeg x))), (qy, .inl (cI, 32, .inl (upd yf qn.toNatClampNeg y)))]) [0, 1, 2] (by decide) rfl
    exact W.iret (v := (qn + 1)) hx hb hr (fun t ht hW => ⟨_, _, rfl, ⟨by first | rfl | (simp only [e_0, e_1, e_2, e_3]; try rfl), by first | rfl | (simp only [e_0, e_1, e_2, e_3]; try rfl)⟩, by rw [ht]; exact hP9, hD9, hS.F ht⟩) hS.2.2 dN_place_71
  · exact absurd q1 (by assumption)

def gR_unit (tf : Nat → Int32) (th : Int32) (zs : Int32) (u : Int32) : Bool := if u < 32 then (false) else (if 126 < u then (false) else (if 200 ≤ zs then (false) else (true)))
def gR_unit_0 (tf : Nat → Int32) (th : Int32) (zs : Int32) (u : Int32) : Int32 := if u < 32 then ((0)) else (if 126 < u then ((0)) else (if 200 ≤ zs then ((0)) else ((0))))
def gR_unit_2 (tf : Nat → Int32) (th : Int32) (zs : Int32) (u : Int32) : Int32 := if u < 32 then (zs) else (if 126 < u then (zs) else (if 200 ≤ zs then (zs) else (zs + 1)))
def gR_unit_f (tf : Nat → Int32) (th : Int32) (zs : Int32) (u : Int32) : Nat → Int32 := if u < 32 then (tf) else (if 126 < u then (tf) else (if 200 ≤ zs then (tf) else (upd tf zs.toNatClampNeg u)))
set_option maxHeartbeats 4000000 in
set_option maxRecDepth 100000 in
theorem cR_unit (l : Launch) {s0 : State} {dC : Nat → ClassId} {dI : Nat → Nat → Nat} {cI cC cL cO : ClassId} (E : xb_Env l s0 dC dI (xtys cI cC cL cO)) (sz : Nat) (h0 : Nat) (ta : Nat) (th : Int32) (zs : Int32) (po : Int32) (fa : Int32) (da : Nat) (ra : Nat) (la : Nat) (we : Int64) (le : Int64) (pk : Int32) (pm : Int32) (co : Int32) (pa : Nat) (pl : Int32) (xa : Nat) (ya : Nat) (mb : Int32) (ea : Nat) (wa : Nat) (tf : Nat → Int32) (u : Int32) (hz : 0 ≤ zs) : Met l yR_unit [.code yR_unit bR_unit 3 (some (.boolean))] ({ frames := 0, cells := 0, slots := 0, locals := 0 }) (va_Pc [.ref h0, .int u] (fun U => xb_At s0 U ∧ U.heap.size = sz ∧ va_P (dC, dI) classes [(h0, .inr (3, [.int th, .ref ta, .int zs, .int po, .int fa, .ref da, .ref ra, .ref la, .long we, .long le, .int pk, .int pm, .int co, .ref pa, .int pl, .ref xa, .ref ya, .int mb, .ref ea, .ref wa])), (ta, .inl (cI, 200, .inl tf))] U.heap ∧ va_D (fun q => s0.heap.size ≤ q) [(h0, .inr (3, [.int th, .ref ta, .int zs, .int po, .int fa, .ref da, .ref ra, .ref la, .long we, .long le, .int pk, .int pm, .int co, .ref pa, .int pl, .ref xa, .ref ya, .int mb, .ref ea, .ref wa])), (ta, .inl (cI, 200, .inl tf))])) (xb_W (dC, dI) (fun v9 w9 => v9 = some (.int (xb_bi (gR_unit tf th zs u))) ∧ w9 = [(h0, .inr (3, [.int (gR_unit_0 tf th zs u), .ref ta, .int (gR_unit_2 tf th zs u), .int po, .int fa, .ref da, .ref ra, .ref la, .long we, .long le, .int pk, .int pm, .int co, .ref pa, .int pl, .ref xa, .ref ya, .int mb, .ref ea, .ref wa])), (ta, .inl (cI, 200, .inl (gR_unit_f tf th zs u)))]) (va_A [(h0, .inr (3, [.int th, .ref ta, .int zs, .int po, .int fa, .ref da, .ref ra, .ref la, .long we, .long le, .int pk, .int pm, .int co, .ref pa, .int pl, .ref xa, .ref ya, .int mb, .ref ea, .ref wa])), (ta, .inl (cI, 200, .inl tf))] sz)) 0 0 (va_A [(h0, .inr (3, [.int th, .ref ta, .int zs, .int po, .int fa, .ref da, .ref ra, .ref la, .long we, .long le, .int pk, .int pm, .int co, .ref pa, .int pl, .ref xa, .ref ya, .int mb, .ref ea, .ref wa])), (ta, .inl (cI, 200, .inl tf))] sz) := by
  refine Met.ofW (cc := bR_unit) (maxL := 3) (ret := (some (.boolean))) (by decide) rfl ?_
  intro p e s m args below meth c s₁ B hml hv
  obtain ⟨rfl, hAt, hsz, hP, hD0⟩ := hv
  have hx := B.exec
  have hb := B.bytes
  have hr := B.returns
  have hts := xb_hts E hAt ([.ref h0, .int u] : List Value).toArray
  have hown : s.vm.findClass "NailRulesModel" = some m.cls := findClass_of_methodNamed B.named
  have hlocks := B.notSynchronized
  have hK := xb_K E hAt
  subst hsz
  have hA0 := xb_A0 hAt hD0
  have hD := hD0.self (sz := s.heap.size)
  generalize hAe : va_A [(h0, .inr (3, [.int th, .ref ta, .int zs, .int po, .int fa, .ref da, .ref ra, .ref la, .long we, .long le, .int pk, .int pm, .int co, .ref pa, .int pl, .ref xa, .ref ya, .int mb, .ref ea, .ref wa])), (ta, .inl (cI, 200, .inl tf))] s.heap.size = A at hD hA0 ⊢
  have hA : ∀ q : Nat, s.heap.size ≤ q → A q := fun q h => by rw [← hAe]; exact Or.inr h
  have hS : va_S A s.heap s.heap [] := va_S.rf
  have hl := lv_entry ([.ref h0, .int u]) (n := 3) (Nat.le_of_ble_eq_true rfl)
  rw [lg_entry_eq]
  generalize (lg_sl ([.ref h0, .int u]) ++ List.replicate (3 - (lg_sl ([.ref h0, .int u])).length) Slot.unset).toArray = ls at hl ⊢
  have hl : lv_has ls 3 [(0, .ref h0), (1, .int u)] := hl
  refine lv_aload_n hx hb dR_unit_0 rfl (lv_at hl 0 rfl) ?_
  refine lv_iconst (v := 0) hx hb dR_unit_1 (by decide) ?_
  refine va_put (D := (dC, dI)) (ci := 3) (v := .int 0) (ty := .int) (C := xR_R) (T := xF_R) (N := 20) hx hb hts xi_R xt_R xt_R_ok xn_R hown hK hP hD hS 0 rfl rfl 0 (by decide) (hts _ xk_646) (fun _ h9 => h9) rfl (by decide +kernel) rfl rfl (Nat.le_of_ble_eq_true rfl) dR_unit_2 (fun H locs hP hD hS => ?_)
  have hP : va_P (dC, dI) classes [(h0, .inr (3, [.int 0, .ref ta, .int zs, .int po, .int fa, .ref da, .ref ra, .ref la, .long we, .long le, .int pk, .int pm, .int co, .ref pa, .int pl, .ref xa, .ref ya, .int mb, .ref ea, .ref wa])), (ta, .inl (cI, 200, .inl tf))] H := hP
  have hD : va_D A [(h0, .inr (3, [.int 0, .ref ta, .int zs, .int po, .int fa, .ref da, .ref ra, .ref la, .long we, .long le, .int pk, .int pm, .int co, .ref pa, .int pl, .ref xa, .ref ya, .int mb, .ref ea, .ref wa])), (ta, .inl (cI, 200, .inl tf))] := hD
  refine lv_iload_n hx hb dR_unit_5 rfl (lv_at hl 1 rfl) ?_
  refine lv_bipush (v := 32) hx hb dR_unit_6 (by decide) ?_
  refine lv_icmp_lt (tgt := 31) hx hb dR_unit_8 (by decide) (fun c_1 => ?_) (fun c_1 => ?_)
  · refine lv_iconst (v := 0) hx hb dR_unit_31 (by decide) ?_
    refine lv_istore_n (lv' := [(2, .int 0), (0, .ref h0), (1, .int u)]) hx hb dR_unit_32 rfl hl (by decide) rfl (fun ls hl => ?_)
    refine lv_iload_n hx hb dR_unit_33 rfl (lv_at hl 0 rfl) ?_
    refine lv_if_eq (tgt := 57) hx hb dR_unit_34 (by decide) (fun c_2 => ?_) (fun c_2 => ?_)
    · refine lv_iload_n hx hb dR_unit_57 rfl (lv_at hl 0 rfl) ?_
      have e_0 : gR_unit tf th zs u = false := (if_pos c_1).trans (rfl)
      have e_1 : gR_unit_0 tf th zs u = (0 : Int32) := (if_pos c_1).trans (rfl)
      have e_2 : gR_unit_2 tf th zs u = zs := (if_pos c_1).trans (rfl)
      have e_3 : gR_unit_f tf th zs u = tf := (if_pos c_1).trans (rfl)
      have hP9 := hP.sub (ws' := [(h0, .inr (3, [.int 0, .ref ta, .int zs, .int po, .int fa, .ref da, .ref ra, .ref la, .long we, .long le, .int pk, .int pm, .int co, .ref pa, .int pl, .ref xa, .ref ya, .int mb, .ref ea, .ref wa])), (ta, .inl (cI, 200, .inl tf))]) [0, 1] rfl
      have hD9 := hD.sub (ws' := [(h0, .inr (3, [.int 0, .ref ta, .int zs, .int po, .int fa, .ref da, .ref ra, .ref la, .long we, .long le, .int pk, .int pm, .int co, .ref pa, .int pl, .ref xa, .ref ya, .int mb, .ref ea, .ref wa])), (ta, .inl (cI, 200, .inl tf))]) [0, 1] (by decide) rfl
      exact W.zret (v := 0) hx hb hr (by decide) (fun t ht hW => ⟨_, _, rfl, ⟨by first | rfl | (simp only [e_0, e_1, e_2, e_3]; try rfl), by first | rfl | (simp only [e_0, e_1, e_2, e_3]; try rfl)⟩, by rw [ht]; exact hP9, hD9, hS.F ht⟩) hS.2.2 dR_unit_58
    · exact absurd c_2 (by decide)
  · refine lv_iload_n hx hb dR_unit_11 rfl (lv_at hl 1 rfl) ?_
    refine lv_bipush (v := 126) hx hb dR_unit_12 (by decide) ?_
    refine lv_icmp_gt (tgt := 31) hx hb dR_unit_14 (by decide) (fun c_3 => ?_) (fun c_3 => ?_)
    · refine lv_iconst (v := 0) hx hb dR_unit_31 (by decide) ?_
      refine lv_istore_n (lv' := [(2, .int 0), (0, .ref h0), (1, .int u)]) hx hb dR_unit_32 rfl hl (by decide) rfl (fun ls hl => ?_)
      refine lv_iload_n hx hb dR_unit_33 rfl (lv_at hl 0 rfl) ?_
      refine lv_if_eq (tgt := 57) hx hb dR_unit_34 (by decide) (fun c_4 => ?_) (fun c_4 => ?_)
      · refine lv_iload_n hx hb dR_unit_57 rfl (lv_at hl 0 rfl) ?_
        have e_0 : gR_unit tf th zs u = false := (if_neg c_1).trans ((if_pos c_3).trans (rfl))
        have e_1 : gR_unit_0 tf th zs u = (0 : Int32) := (if_neg c_1).trans ((if_pos c_3).trans (rfl))
        have e_2 : gR_unit_2 tf th zs u = zs := (if_neg c_1).trans ((if_pos c_3).trans (rfl))
        have e_3 : gR_unit_f tf th zs u = tf := (if_neg c_1).trans ((if_pos c_3).trans (rfl))
        have hP9 := hP.sub (ws' := [(h0, .inr (3, [.int 0, .ref ta, .int zs, .int po, .int fa, .ref da, .ref ra, .ref la, .long we, .long le, .int pk, .int pm, .int co, .ref pa, .int pl, .ref xa, .ref ya, .int mb, .ref ea, .ref wa])), (ta, .inl (cI, 200, .inl tf))]) [0, 1] rfl
        have hD9 := hD.sub (ws' := [(h0, .inr (3, [.int 0, .ref ta, .int zs, .int po, .int fa, .ref da, .ref ra, .ref la, .long we, .long le, .int pk, .int pm, .int co, .ref pa, .int pl, .ref xa, .ref ya, .int mb, .ref ea, .ref wa])), (ta, .inl (cI, 200, .inl tf))]) [0, 1] (by decide) rfl
        exact W.zret (v := 0) hx hb hr (by decide) (fun t ht hW => ⟨_, _, rfl, ⟨by first | rfl | (simp only [e_0, e_1, e_2, e_3]; try rfl), by first | rfl | (simp only [e_0, e_1, e_2, e_3]; try rfl)⟩, by rw [ht]; exact hP9, hD9, hS.F ht⟩) hS.2.2 dR_unit_58
      · exact absurd c_4 (by decide)
    · refine lv_aload_n hx hb dR_unit_17 rfl (lv_at hl 0 rfl) ?_
      refine va_get (D := (dC, dI)) (ci := 3) (v := .int zs) (C := xR_R) (T := xF_R) (N := 20) hx hb hts xi_R hown hK hP 0 rfl rfl 2 (by decide) (hts _ xk_648) (fun _ h9 => h9) rfl dR_unit_18 ?_
      refine lv_sipush (v := 200) hx hb dR_unit_21 (by decide) ?_
      refine lv_icmp_ge (tgt := 31) hx hb dR_unit_24 (by decide) (fun c_5 => ?_) (fun c_5 => ?_)
      · refine lv_iconst (v := 0) hx hb dR_unit_31 (by decide) ?_
        refine lv_istore_n (lv' := [(2, .int 0), (0, .ref h0), (1, .int u)]) hx hb dR_unit_32 rfl hl (by decide) rfl (fun ls hl => ?_)
        refine lv_iload_n hx hb dR_unit_33 rfl (lv_at hl 0 rfl) ?_
        refine lv_if_eq (tgt := 57) hx hb dR_unit_34 (by decide) (fun c_6 => ?_) (fun c_6 => ?_)
        · refine lv_iload_n hx hb dR_unit_57 rfl (lv_at hl 0 rfl) ?_
          have e_0 : gR_unit tf th zs u = false := (if_neg c_1).trans ((if_neg c_3).trans ((if_pos c_5).trans (rfl)))
          have e_1 : gR_unit_0 tf th zs u = (0 : Int32) := (if_neg c_1).trans ((if_neg c_3).trans ((if_pos c_5).trans (rfl)))
          have e_2 : gR_unit_2 tf th zs u = zs := (if_neg c_1).trans ((if_neg c_3).trans ((if_pos c_5).trans (rfl)))
          have e_3 : gR_unit_f tf th zs u = tf := (if_neg c_1).trans ((if_neg c_3).trans ((if_pos c_5).trans (rfl)))
          have hP9 := hP.sub (ws' := [(h0, .inr (3, [.int 0, .ref ta, .int zs, .int po, .int fa, .ref da, .ref ra, .ref la, .long we, .long le, .int pk, .int pm, .int co, .ref pa, .int pl, .ref xa, .ref ya, .int mb, .ref ea, .ref wa])), (ta, .inl (cI, 200, .inl tf))]) [0, 1] rfl
          have hD9 := hD.sub (ws' := [(h0, .inr (3, [.int 0, .ref ta, .int zs, .int po, .int fa, .ref da, .ref ra, .ref la, .long we, .long le, .int pk, .int pm, .int co, .ref pa, .int pl, .ref xa, .ref ya, .int mb, .ref ea, .ref wa])), (ta, .inl (cI, 200, .inl tf))]) [0, 1] (by decide) rfl
          exact W.zret (v := 0) hx hb hr (by decide) (fun t ht hW => ⟨_, _, rfl, ⟨by first | rfl | (simp only [e_0, e_1, e_2, e_3]; try rfl), by first | rfl | (simp only [e_0, e_1, e_2, e_3]; try rfl)⟩, by rw [ht]; exact hP9, hD9, hS.F ht⟩) hS.2.2 dR_unit_58
        · exact absurd c_6 (by decide)
      · refine lv_iconst (v := 1) hx hb dR_unit_27 (by decide) ?_
        refine lv_goto (tgt := 32) hx hb dR_unit_28 (by decide) ?_
        refine lv_istore_n (lv' := [(2, .int 1), (0, .ref h0), (1, .int u)]) hx hb dR_unit_32 rfl hl (by decide) rfl (fun ls hl => ?_)
        refine lv_iload_n hx hb dR_unit_33 rfl (lv_at hl 0 rfl) ?_
        refine lv_if_eq (tgt := 57) hx hb dR_unit_34 (by decide) (fun c_7 => ?_) (fun c_7 => ?_)
        · exact absurd c_7 (by decide)
        · refine lv_aload_n hx hb dR_unit_37 rfl (lv_at hl 1 rfl) ?_
          refine va_get (D := (dC, dI)) (ci := 3) (v := .ref ta) (C := xR_R) (T := xF_R) (N := 20) hx hb hts xi_R hown hK hP 0 rfl rfl 1 (by decide) (hts _ xk_647) (fun _ h9 => h9) rfl dR_unit_38 ?_
          refine lv_aload_n hx hb dR_unit_41 rfl (lv_at hl 1 rfl) ?_
          refine va_get (D := (dC, dI)) (ci := 3) (v := .int zs) (C := xR_R) (T := xF_R) (N := 20) hx hb hts xi_R hown hK hP 0 rfl rfl 2 (by decide) (hts _ xk_648) (fun _ h9 => h9) rfl dR_unit_42 ?_
          refine lv_iload_n hx hb dR_unit_45 rfl (lv_at hl 2 rfl) ?_
          have o_8 : vp_in zs 200 := by exact xp_app hz (by assumption)
          refine va_iast hx hb hK hP hD hS 1 0 rfl rfl o_8 dR_unit_46 (fun H locs hP hD hS => ?_)
          have hP : va_P (dC, dI) classes [(h0, .inr (3, [.int 0, .ref ta, .int zs, .int po, .int fa, .ref da, .ref ra, .ref la, .long we, .long le, .int pk, .int pm, .int co, .ref pa, .int pl, .ref xa, .ref ya, .int mb, .ref ea, .ref wa])), (ta, .inl (cI, 200, .inl (upd tf zs.toNatClampNeg u)))] H := hP
          have hD : va_D A [(h0, .inr (3, [.int 0, .ref ta, .int zs, .int po, .int fa, .ref da, .ref ra, .ref la, .long we, .long le, .int pk, .int pm, .int co, .ref pa, .int pl, .ref xa, .ref ya, .int mb, .ref ea, .ref wa])), (ta, .inl (cI, 200, .inl (upd tf zs.toNatClampNeg u)))] := hD
          refine lv_aload_n hx hb dR_unit_47 rfl (lv_at hl 1 rfl) ?_
          refine lv_dup hx hb dR_unit_48 rfl ?_
          refine va_get (D := (dC, dI)) (ci := 3) (v := .int zs) (C := xR_R) (T := xF_R) (N := 20) hx hb hts xi_R hown hK hP 0 rfl rfl 2 (by decide) (hts _ xk_648) (fun _ h9 => h9) rfl dR_unit_49 ?_
          refine lv_iconst (v := 1) hx hb dR_unit_52 (by decide) ?_
          refine lv_iadd hx hb dR_unit_53 ?_
          refine va_put (D := (dC, dI)) (ci := 3) (v := .int (zs + 1)) (ty := .int) (C := xR_R) (T := xF_R) (N := 20) hx hb hts xi_R xt_R xt_R_ok xn_R hown hK hP hD hS 0 rfl rfl 2 (by decide) (hts _ xk_648) (fun _ h9 => h9) rfl (by decide +kernel) rfl rfl (Nat.le_of_ble_eq_true rfl) dR_unit_54 (fun H locs hP hD hS => ?_)
          have hP : va_P (dC, dI) classes [(h0, .inr (3, [.int 0, .ref ta, .int (zs + 1), .int po, .int fa, .ref da, .ref ra, .ref la, .long we, .long le, .int pk, .int pm, .int co, .ref pa, .int pl, .ref xa, .ref ya, .int mb, .ref ea, .ref wa])), (ta, .inl (cI, 200, .inl (upd tf zs.toNatClampNeg u)))] H := hP
          have hD : va_D A [(h0, .inr (3, [.int 0, .ref ta, .int (zs + 1), .int po, .int fa, .ref da, .ref ra, .ref la, .long we, .long le, .int pk, .int pm, .int co, .ref pa, .int pl, .ref xa, .ref ya, .int mb, .ref ea, .ref wa])), (ta, .inl (cI, 200, .inl (upd tf zs.toNatClampNeg u)))] := hD
          refine lv_iload_n hx hb dR_unit_57 rfl (lv_at hl 0 rfl) ?_
          have e_0 : gR_unit tf th zs u = true := (if_neg c_1).trans ((if_neg c_3).trans ((if_neg c_5).trans (rfl)))
          have e_1 : gR_unit_0 tf th zs u = (0 : Int32) := (if_neg c_1).trans ((if_neg c_3).trans ((if_neg c_5).trans (rfl)))
          have e_2 : gR_unit_2 tf th zs u = (zs + 1) := (if_neg c_1).trans ((if_neg c_3).trans ((if_neg c_5).trans (rfl)))
          have e_3 : gR_unit_f tf th zs u = (upd tf zs.toNatClampNeg u) := (if_neg c_1).trans ((if_neg c_3).trans ((if_neg c_5).trans (rfl)))
          have hP9 := hP.sub (ws' := [(h0, .inr (3, [.int 0, .ref ta, .int (zs + 1), .int po, .int fa, .ref da, .ref ra, .ref la, .long we, .long le, .int pk, .int pm, .int co, .ref pa, .int pl, .ref xa, .ref ya, .int mb, .ref ea, .ref wa])), (ta, .inl (cI, 200, .inl (upd tf zs.toNatClampNeg u)))]) [0, 1] rfl
          have hD9 := hD.sub (ws' := [(h0, .inr (3, [.int 0, .ref ta, .int (zs + 1), .int po, .int fa, .ref da, .ref ra, .ref la, .long we, .long le, .int pk, .int pm, .int co, .ref pa, .int pl, .ref xa, .ref ya, .int mb, .ref ea, .ref wa])), (ta, .inl (cI, 200, .inl (upd tf zs.toNatClampNeg u)))]) [0, 1] (by decide) rfl
          exact W.zret (v := 1) hx hb hr (by decide) (fun t ht hW => ⟨_, _, rfl, ⟨by first | rfl | (simp only [e_0, e_1, e_2, e_3]; try rfl), by first | rfl | (simp only [e_0, e_1, e_2, e_3]; try rfl)⟩, by rw [ht]; exact hP9, hD9, hS.F ht⟩) hS.2.2 dR_unit_58

def gR_must_3 (po : Int32) (fa : Int32) (is : Int32) : Int32 := if fa = (-1) then (if is = 0 then (if po = (-1) then (po + 1) else (po)) else (if fa = (-1) then (po + 1) else (po))) else (if fa = (-1) then (po + 1) else (po))
def gR_must_4 (po : Int32) (fa : Int32) (is : Int32) : Int32 := if fa = (-1) then (if is = 0 then (if po = (-1) then (po) else (po)) else (if fa = (-1) then (fa) else (fa))) else (if fa = (-1) then (fa) else (fa))
set_option maxHeartbeats 4000000 in
set_option maxRecDepth 100000 in
theorem cR_must (l : Launch) {s0 : State} {dC : Nat → ClassId} {dI : Nat → Nat → Nat} {cI cC cL cO : ClassId} (E : xb_Env l s0 dC dI (xtys cI cC cL cO)) (sz : Nat) (h0 : Nat) (th : Int32) (ta : Nat) (zs : Int32) (po : Int32) (fa : Int32) (da : Nat) (ra : Nat) (la : Nat) (we : Int64) (le : Int64) (pk : Int32) (pm : Int32) (co : Int32) (pa : Nat) (pl : Int32) (xa : Nat) (ya : Nat) (mb : Int32) (ea : Nat) (wa : Nat) (is : Int32) : Met l yR_must [.code yR_must bR_must 2 none] ({ frames := 0, cells := 0, slots := 0, locals := 0 }) (va_Pc [.ref h0, .int is] (fun U => xb_At s0 U ∧ U.heap.size = sz ∧ va_P (dC, dI) classes [(h0, .inr (3, [.int th, .ref ta, .int zs, .int po, .int fa, .ref da, .ref ra, .ref la, .long we, .long le, .int pk, .int pm, .int co, .ref pa, .int pl, .ref xa, .ref ya, .int mb, .ref ea, .ref wa]))] U.heap ∧ va_D (fun q => s0.heap.size ≤ q) [(h0, .inr (3, [.int th, .ref ta, .int zs, .int po, .int fa, .ref da, .ref ra, .ref la, .long we, .long le, .int pk, .int pm, .int co, .ref pa, .int pl, .ref xa, .ref ya, .int mb, .ref ea, .ref wa]))])) (xb_W (dC, dI) (fun v9 w9 => v9 = none ∧ w9 = [(h0, .inr (3, [.int th, .ref ta, .int zs, .int (gR_must_3 po fa is), .int (gR_must_4 po fa is), .ref da, .ref ra, .ref la, .long we, .long le, .int pk, .int pm, .int co, .ref pa, .int pl, .ref xa, .ref ya, .int mb, .ref ea, .ref wa]))]) (va_A [(h0, .inr (3, [.int th, .ref ta, .int zs, .int po, .int fa, .ref da, .ref ra, .ref la, .long we, .long le, .int pk, .int pm, .int co, .ref pa, .int pl, .ref xa, .ref ya, .int mb, .ref ea, .ref wa]))] sz)) 0 0 (va_A [(h0, .inr (3, [.int th, .ref ta, .int zs, .int po, .int fa, .ref da, .ref ra, .ref la, .long we, .long le, .int pk, .int pm, .int co, .ref pa, .int pl, .ref xa, .ref ya, .int mb, .ref ea, .ref wa]))] sz) := by
  refine Met.ofW (cc := bR_must) (maxL := 2) (ret := none) (by decide) rfl ?_
  intro p e s m args below meth c s₁ B hml hv
  obtain ⟨rfl, hAt, hsz, hP, hD0⟩ := hv
  have hx := B.exec
  have hb := B.bytes
  have hr := B.returns
  have hts := xb_hts E hAt ([.ref h0, .int is] : List Value).toArray
  have hown : s.vm.findClass "NailRulesModel" = some m.cls := findClass_of_methodNamed B.named
  have hlocks := B.notSynchronized
  have hK := xb_K E hAt
  subst hsz
  have hA0 := xb_A0 hAt hD0
  have hD := hD0.self (sz := s.heap.size)
  generalize hAe : va_A [(h0, .inr (3, [.int th, .ref ta, .int zs, .int po, .int fa, .ref da, .ref ra, .ref la, .long we, .long le, .int pk, .int pm, .int co, .ref pa, .int pl, .ref xa, .ref ya, .int mb, .ref ea, .ref wa]))] s.heap.size = A at hD hA0 ⊢
  have hA : ∀ q : Nat, s.heap.size ≤ q → A q := fun q h => by rw [← hAe]; exact Or.inr h
  have hS : va_S A s.heap s.heap [] := va_S.rf
  have hl := lv_entry ([.ref h0, .int is]) (n := 2) (Nat.le_of_ble_eq_true rfl)
  rw [lg_entry_eq]
  generalize (lg_sl ([.ref h0, .int is]) ++ List.replicate (2 - (lg_sl ([.ref h0, .int is])).length) Slot.unset).toArray = ls at hl ⊢
  have hl : lv_has ls 2 [(0, .ref h0), (1, .int is)] := hl
  refine lv_aload_n hx hb dR_must_0 rfl (lv_at hl 0 rfl) ?_
  refine va_get (D := (dC, dI)) (ci := 3) (v := .int fa) (C := xR_R) (T := xF_R) (N := 20) hx hb hts xi_R hown hK hP 0 rfl rfl 4 (by decide) (hts _ xk_650) (fun _ h9 => h9) rfl dR_must_1 ?_
  refine lv_iconst (v := (-1)) hx hb dR_must_4 (by decide) ?_
  refine lv_icmp_ne (tgt := 20) hx hb dR_must_5 (by decide) (fun c_1 => ?_) (fun c_1 => ?_)
  · refine lv_aload_n hx hb dR_must_20 rfl (lv_at hl 0 rfl) ?_
    refine va_get (D := (dC, dI)) (ci := 3) (v := .int fa) (C := xR_R) (T := xF_R) (N := 20) hx hb hts xi_R hown hK hP 0 rfl rfl 4 (by decide) (hts _ xk_650) (fun _ h9 => h9) rfl dR_must_21 ?_
    refine lv_iconst (v := (-1)) hx hb dR_must_24 (by decide) ?_
    refine lv_icmp_ne (tgt := 38) hx hb dR_must_25 (by decide) (fun c_2 => ?_) (fun c_2 => ?_)
    · have e_0 : gR_must_3 po fa is = po := (if_neg c_1).trans ((if_neg c_2).trans (rfl))
      have e_1 : gR_must_4 po fa is = fa := (if_neg c_1).trans ((if_neg c_2).trans (rfl))
      have hP9 := hP.sub (ws' := [(h0, .inr (3, [.int th, .ref ta, .int zs, .int po, .int fa, .ref da, .ref ra, .ref la, .long we, .long le, .int pk, .int pm, .int co, .ref pa, .int pl, .ref xa, .ref ya, .int mb, .ref ea, .ref wa]))]) [0] rfl
      have hD9 := hD.sub (ws' := [(h0, .inr (3, [.int th, .ref ta, .int zs, .int po, .int fa, .ref da, .ref ra, .ref la, .long we, .long le, .int pk, .int pm, .int co, .ref pa, .int pl, .ref xa, .ref ya, .int mb, .ref ea, .ref wa]))]) [0] (by decide) rfl
      exact W.vret hx hb hr (fun t ht hW => ⟨_, _, rfl, ⟨by first | rfl | (simp only [e_0, e_1]; try rfl), by first | rfl | (simp only [e_0, e_1]; try rfl)⟩, by rw [ht]; exact hP9, hD9, hS.F ht⟩) hS.2.2 dR_must_38
    · refine lv_aload_n hx hb dR_must_28 rfl (lv_at hl 0 rfl) ?_
      refine lv_dup hx hb dR_must_29 rfl ?_
      refine va_get (D := (dC, dI)) (ci := 3) (v := .int po) (C := xR_R) (T := xF_R) (N := 20) hx hb hts xi_R hown hK hP 0 rfl rfl 3 (by decide) (hts _ xk_649) (fun _ h9 => h9) rfl dR_must_30 ?_
      refine lv_iconst (v := 1) hx hb dR_must_33 (by decide) ?_
      refine lv_iadd hx hb dR_must_34 ?_
      refine va_put (D := (dC, dI)) (ci := 3) (v := .int (po + 1)) (ty := .int) (C := xR_R) (T := xF_R) (N := 20) hx hb hts xi_R xt_R xt_R_ok xn_R hown hK hP hD hS 0 rfl rfl 3 (by decide) (hts _ xk_649) (fun _ h9 => h9) rfl (by decide +kernel) rfl rfl (Nat.le_of_ble_eq_true rfl) dR_must_35 (fun H locs hP hD hS => ?_)
      have hP : va_P (dC, dI) classes [(h0, .inr (3, [.int th, .ref ta, .int zs, .int (po + 1), .int fa, .ref da, .ref ra, .ref la, .long we, .long le, .int pk, .int pm, .int co, .ref pa, .int pl, .ref xa, .ref ya, .int mb, .ref ea, .ref wa]))] H := hP
      have hD : va_D A [(h0, .inr (3, [.int th, .ref ta, .int zs, .int (po + 1), .int fa, .ref da, .ref ra, .ref la, .long we, .long le, .int pk, .int pm, .int co, .ref pa, .int pl, .ref xa, .ref ya, .int mb, .ref ea, .ref wa]))] := hD
      have e_0 : gR_must_3 po fa is = (po + 1) := (if_neg c_1).trans ((if_pos c_2).trans (rfl))
      have e_1 : gR_must_4 po fa is = fa := (if_neg c_1).trans ((if_pos c_2).trans (rfl))
      have hP9 := hP.sub (ws' := [(h0, .inr (3, [.int th, .ref ta, .int zs, .int (po + 1), .int fa, .ref da, .ref ra, .ref la, .long we, .long le, .int pk, .int pm, .int co, .ref pa, .int pl, .ref xa, .ref ya, .int mb, .ref ea, .ref wa]))]) [0] rfl
      have hD9 := hD.sub (ws' := [(h0, .inr (3, [.int th, .ref ta, .int zs, .int (po + 1), .int fa, .ref da, .ref ra, .ref la, .long we, .long le, .int pk, .int pm, .int co, .ref pa, .int pl, .ref xa, .ref ya, .int mb, .ref ea, .ref wa]))]) [0] (by decide) rfl
      exact W.vret hx hb hr (fun t ht hW => ⟨_, _, rfl, ⟨by first | rfl | (simp only [e_0, e_1]; try rfl), by first | rfl | (simp only [e_0, e_1]; try rfl)⟩, by rw [ht]; exact hP9, hD9, hS.F ht⟩) hS.2.2 dR_must_38
  · refine lv_iload_n hx hb dR_must_8 rfl (lv_at hl 1 rfl) ?_
    refine lv_if_ne (tgt := 20) hx hb dR_must_9 (by decide) (fun c_3 => ?_) (fun c_3 => ?_)
    · refine lv_aload_n hx hb dR_must_20 rfl (lv_at hl 0 rfl) ?_
      refine va_get (D := (dC, dI)) (ci := 3) (v := .int fa) (C := xR_R) (T := xF_R) (N := 20) hx hb hts xi_R hown hK hP 0 rfl rfl 4 (by decide) (hts _ xk_650) (fun _ h9 => h9) rfl dR_must_21 ?_
      refine lv_iconst (v := (-1)) hx hb dR_must_24 (by decide) ?_
      refine lv_icmp_ne (tgt := 38) hx hb dR_must_25 (by decide) (fun c_4 => ?_) (fun c_4 => ?_)
      · have e_0 : gR_must_3 po fa is = po := (if_pos c_1).trans ((if_neg c_3).trans ((if_neg c_4).trans (rfl)))
        have e_1 : gR_must_4 po fa is = fa := (if_pos c_1).trans ((if_neg c_3).trans ((if_neg c_4).trans (rfl)))
        have hP9 := hP.sub (ws' := [(h0, .inr (3, [.int th, .ref ta, .int zs, .int po, .int fa, .ref da, .ref ra, .ref la, .long we, .long le, .int pk, .int pm, .int co, .ref pa, .int pl, .ref xa, .ref ya, .int mb, .ref ea, .ref wa]))]) [0] rfl
        have hD9 := hD.sub (ws' := [(h0, .inr (3, [.int th, .ref ta, .int zs, .int po, .int fa, .ref da, .ref ra, .ref la, .long we, .long le, .int pk, .int pm, .int co, .ref pa, .int pl, .ref xa, .ref ya, .int mb, .ref ea, .ref wa]))]) [0] (by decide) rfl
        exact W.vret hx hb hr (fun t ht hW => ⟨_, _, rfl, ⟨by first | rfl | (simp only [e_0, e_1]; try rfl), by first | rfl | (simp only [e_0, e_1]; try rfl)⟩, by rw [ht]; exact hP9, hD9, hS.F ht⟩) hS.2.2 dR_must_38
      · refine lv_aload_n hx hb dR_must_28 rfl (lv_at hl 0 rfl) ?_
        refine lv_dup hx hb dR_must_29 rfl ?_
        refine va_get (D := (dC, dI)) (ci := 3) (v := .int po) (C := xR_R) (T := xF_R) (N := 20) hx hb hts xi_R hown hK hP 0 rfl rfl 3 (by decide) (hts _ xk_649) (fun _ h9 => h9) rfl dR_must_30 ?_
        refine lv_iconst (v := 1) hx hb dR_must_33 (by decide) ?_
        refine lv_iadd hx hb dR_must_34 ?_
        refine va_put (D := (dC, dI)) (ci := 3) (v := .int (po + 1)) (ty := .int) (C := xR_R) (T := xF_R) (N := 20) hx hb hts xi_R xt_R xt_R_ok xn_R hown hK hP hD hS 0 rfl rfl 3 (by decide) (hts _ xk_649) (fun _ h9 => h9) rfl (by decide +kernel) rfl rfl (Nat.le_of_ble_eq_true rfl) dR_must_35 (fun H locs hP hD hS => ?_)
        have hP : va_P (dC, dI) classes [(h0, .inr (3, [.int th, .ref ta, .int zs, .int (po + 1), .int fa, .ref da, .ref ra, .ref la, .long we, .long le, .int pk, .int pm, .int co, .ref pa, .int pl, .ref xa, .ref ya, .int mb, .ref ea, .ref wa]))] H := hP
        have hD : va_D A [(h0, .inr (3, [.int th, .ref ta, .int zs, .int (po + 1), .int fa, .ref da, .ref ra, .ref la, .long we, .long le, .int pk, .int pm, .int co, .ref pa, .int pl, .ref xa, .ref ya, .int mb, .ref ea, .ref wa]))] := hD
        have e_0 : gR_must_3 po fa is = (po + 1) := (if_pos c_1).trans ((if_neg c_3).trans ((if_pos c_4).trans (rfl)))
        have e_1 : gR_must_4 po fa is = fa := (if_pos c_1).trans ((if_neg c_3).trans ((if_pos c_4).trans (rfl)))
        have hP9 := hP.sub (ws' := [(h0, .inr (3, [.int th, .ref ta, .int zs, .int (po + 1), .int fa, .ref da, .ref ra, .ref la, .long we, .long le, .int pk, .int pm, .int co, .ref pa, .int pl, .ref xa, .ref ya, .int mb, .ref ea, .ref wa]))]) [0] rfl
        have hD9 := hD.sub (ws' := [(h0, .inr (3, [.int th, .ref ta, .int zs, .int (po + 1), .int fa, .ref da, .ref ra, .ref la, .long we, .long le, .int pk, .int pm, .int co, .ref pa, .int pl, .ref xa, .ref ya, .int mb, .ref ea, .ref wa]))]) [0] (by decide) rfl
        exact W.vret hx hb hr (fun t ht hW => ⟨_, _, rfl, ⟨by first | rfl | (simp only [e_0, e_1]; try rfl), by first | rfl | (simp only [e_0, e_1]; try rfl)⟩, by rw [ht]; exact hP9, hD9, hS.F ht⟩) hS.2.2 dR_must_38
    · refine lv_aload_n hx hb dR_must_12 rfl (lv_at hl 0 rfl) ?_
      refine lv_aload_n hx hb dR_must_13 rfl (lv_at hl 0 rfl) ?_
      refine va_get (D := (dC, dI)) (ci := 3) (v := .int po) (C := xR_R) (T := xF_R) (N := 20) hx hb hts xi_R hown hK hP 0 rfl rfl 3 (by decide) (hts _ xk_649) (fun _ h9 => h9) rfl dR_must_14 ?_
      refine va_put (D := (dC, dI)) (ci := 3) (v := .int po) (ty := .int) (C := xR_R) (T := xF_R) (N := 20) hx hb hts xi_R xt_R xt_R_ok xn_R hown hK hP hD hS 0 rfl rfl 4 (by decide) (hts _ xk_650) (fun _ h9 => h9) rfl (by decide +kernel) rfl rfl (Nat.le_of_ble_eq_true rfl) dR_must_17 (fun H locs hP hD hS => ?_)
      have hP : va_P (dC, dI) classes [(h0, .inr (3, [.int th, .ref ta, .int zs, .int po, .int po, .ref da, .ref ra, .ref la, .long we, .long le, .int pk, .int pm, .int co, .ref pa, .int pl, .ref xa, .ref ya, .int mb, .ref ea, .ref wa]))] H := hP
      have hD : va_D A [(h0, .inr (3, [.int th, .ref ta, .int zs, .int po, .int po, .ref da, .ref ra, .ref la, .long we, .long le, .int pk, .int pm, .int co, .ref pa, .int pl, .ref xa, .ref ya, .int mb, .ref ea, .ref wa]))] := hD
      refine lv_aload_n hx hb dR_must_20 rfl (lv_at hl 0 rfl) ?_
      refine va_get (D := (dC, dI)) (ci := 3) (v := .int po) (C := xR_R) (T := xF_R) (N := 20) hx hb hts xi_R hown hK hP 0 rfl rfl 4 (by decide) (hts _ xk_650) (fun _ h9 => h9) rfl dR_must_21 ?_
      refine lv_iconst (v := (-1)) hx hb dR_must_24 (by decide) ?_
      refine lv_icmp_ne (tgt := 38) hx hb dR_must_25 (by decide) (fun c_5 => ?_) (fun c_5 => ?_)
      · have e_0 : gR_must_3 po fa is = po := (if_pos c_1).trans ((if_pos c_3).trans ((if_neg c_5).trans (rfl)))
        have e_1 : gR_must_4 po fa is = po := (if_pos c_1).trans ((if_pos c_3).trans ((if_neg c_5).trans (rfl)))
        have hP9 := hP.sub (ws' := [(h0, .inr (3, [.int th, .ref ta, .int zs, .int po, .int po, .ref da, .ref ra, .ref la, .long we, .long le, .int pk, .int pm, .int co, .ref pa, .int pl, .ref xa, .ref ya, .int mb, .ref ea, .ref wa]))]) [0] rfl
        have hD9 := hD.sub (ws' := [(h0, .inr (3, [.int th, .ref ta, .int zs, .int po, .int po, .ref da, .ref ra, .ref la, .long we, .long le, .int pk, .int pm, .int co, .ref pa, .int pl, .ref xa, .ref ya, .int mb, .ref ea, .ref wa]))]) [0] (by decide) rfl
        exact W.vret hx hb hr (fun t ht hW => ⟨_, _, rfl, ⟨by first | rfl | (simp only [e_0, e_1]; try rfl), by first | rfl | (simp only [e_0, e_1]; try rfl)⟩, by rw [ht]; exact hP9, hD9, hS.F ht⟩) hS.2.2 dR_must_38
      · refine lv_aload_n hx hb dR_must_28 rfl (lv_at hl 0 rfl) ?_
        refine lv_dup hx hb dR_must_29 rfl ?_
        refine va_get (D := (dC, dI)) (ci := 3) (v := .int po) (C := xR_R) (T := xF_R) (N := 20) hx hb hts xi_R hown hK hP 0 rfl rfl 3 (by decide) (hts _ xk_649) (fun _ h9 => h9) rfl dR_must_30 ?_
        refine lv_iconst (v := 1) hx hb dR_must_33 (by decide) ?_
        refine lv_iadd hx hb dR_must_34 ?_
        refine va_put (D := (dC, dI)) (ci := 3) (v := .int (po + 1)) (ty := .int) (C := xR_R) (T := xF_R) (N := 20) hx hb hts xi_R xt_R xt_R_ok xn_R hown hK hP hD hS 0 rfl rfl 3 (by decide) (hts _ xk_649) (fun _ h9 => h9) rfl (by decide +kernel) rfl rfl (Nat.le_of_ble_eq_true rfl) dR_must_35 (fun H locs hP hD hS => ?_)
        have hP : va_P (dC, dI) classes [(h0, .inr (3, [.int th, .ref ta, .int zs, .int (po + 1), .int po, .ref da, .ref ra, .ref la, .long we, .long le, .int pk, .int pm, .int co, .ref pa, .int pl, .ref xa, .ref ya, .int mb, .ref ea, .ref wa]))] H := hP
        have hD : va_D A [(h0, .inr (3, [.int th, .ref ta, .int zs, .int (po + 1), .int po, .ref da, .ref ra, .ref la, .long we, .long le, .int pk, .int pm, .int co, .ref pa, .int pl, .ref xa, .ref ya, .int mb, .ref ea, .ref wa]))] := hD
        have e_0 : gR_must_3 po fa is = (po + 1) := (if_pos c_1).trans ((if_pos c_3).trans ((if_pos c_5).trans (rfl)))
        have e_1 : gR_must_4 po fa is = po := (if_pos c_1).trans ((if_pos c_3).trans ((if_pos c_5).trans (rfl)))
        have hP9 := hP.sub (ws' := [(h0, .inr (3, [.int th, .ref ta, .int zs, .int (po + 1), .int po, .ref da, .ref ra, .ref la, .long we, .long le, .int pk, .int pm, .int co, .ref pa, .int pl, .ref xa, .ref ya, .int mb, .ref ea, .ref wa]))]) [0] rfl
        have hD9 := hD.sub (ws' := [(h0, .inr (3, [.int th, .ref ta, .int zs, .int (po + 1), .int po, .ref da, .ref ra, .ref la, .long we, .long le, .int pk, .int pm, .int co, .ref pa, .int pl, .ref xa, .ref ya, .int mb, .ref ea, .ref wa]))]) [0] (by decide) rfl
        exact W.vret hx hb hr (fun t ht hW => ⟨_, _, rfl, ⟨by first | rfl | (simp only [e_0, e_1]; try rfl), by first | rfl | (simp only [e_0, e_1]; try rfl)⟩, by rw [ht]; exact hP9, hD9, hS.F ht⟩) hS.2.2 dR_must_38

def gR_clear_0  : Int32 := (0)
def gR_clear_14  : Int32 := (0)
set_option maxHeartbeats 4000000 in
set_option maxRecDepth 100000 in
theorem cR_clear (l : Launch) {s0 : State} {dC : Nat → ClassId} {dI : Nat → Nat → Nat} {cI cC cL cO : ClassId} (E : xb_Env l s0 dC dI (xtys cI cC cL cO)) (sz : Nat) (h0 : Nat) (th : Int32) (ta : Nat) (zs : Int32) (po : Int32) (fa : Int32) (da : Nat) (ra : Nat) (la : Nat) (we : Int64) (le : Int64) (pk : Int32) (pm : Int32) (co : Int32) (pa : Nat) (pl : Int32) (xa : Nat) (ya : Nat) (mb : Int32) (ea : Nat) (wa : Nat) : Met l yR_clear [.code yR_clear bR_clear 1 none] ({ frames := 0, cells := 0, slots := 0, locals := 0 }) (va_Pc [.ref h0] (fun U => xb_At s0 U ∧ U.heap.size = sz ∧ va_P (dC, dI) classes [(h0, .inr (3, [.int th, .ref ta, .int zs, .int po, .int fa, .ref da, .ref ra, .ref la, .long we, .long le, .int pk, .int pm, .int co, .ref pa, .int pl, .ref xa, .ref ya, .int mb, .ref ea, .ref wa]))] U.heap ∧ va_D (fun q => s0.heap.size ≤ q) [(h0, .inr (3, [.int th, .ref ta, .int zs, .int po, .int fa, .ref da, .ref ra, .ref la, .long we, .long le, .int pk, .int pm, .int co, .ref pa, .int pl, .ref xa, .ref ya, .int mb, .ref ea, .ref wa]))])) (xb_W (dC, dI) (fun v9 w9 => v9 = none ∧ w9 = [(h0, .inr (3, [.int (gR_clear_0 ), .ref ta, .int zs, .int po, .int fa, .ref da, .ref ra, .ref la, .long we, .long le, .int pk, .int pm, .int co, .ref pa, .int (gR_clear_14 ), .ref xa, .ref ya, .int mb, .ref ea, .ref wa]))]) (va_A [(h0, .inr (3, [.int th, .ref ta, .int zs, .int po, .int fa, .ref da, .ref ra, .ref la, .long we, .long le, .int pk, .int pm, .int co, .ref pa, .int pl, .ref xa, .ref ya, .int mb, .ref ea, .ref wa]))] sz)) 0 0 (va_A [(h0, .inr (3, [.int th, .ref ta, .int zs, .int po, .int fa, .ref da, .ref ra, .ref la, .long we, .long le, .int pk, .int pm, .int co, .ref pa, .int pl, .ref xa, .ref ya, .int mb, .ref ea, .ref wa]))] sz) := by
  refine Met.ofW (cc := bR_clear) (maxL := 1) (ret := none) (by decide) rfl ?_
  intro p e s m args below meth c s₁ B hml hv
  obtain ⟨rfl, hAt, hsz, hP, hD0⟩ := hv
  have hx := B.exec
  have hb := B.bytes
  have hr := B.returns
  have hts := xb_hts E hAt ([.ref h0] : List Value).toArray
  have hown : s.vm.findClass "NailRulesModel" = some m.cls := findClass_of_methodNamed B.named
  have hlocks := B.notSynchronized
  have hK := xb_K E hAt
  subst hsz
  have hA0 := xb_A0 hAt hD0
  have hD := hD0.self (sz := s.heap.size)
  generalize hAe : va_A [(h0, .inr (3, [.int th, .ref ta, .int zs, .int po, .int fa, .ref da, .ref ra, .ref la, .long we, .long le, .int pk, .int pm, .int co, .ref pa, .int pl, .ref xa, .ref ya, .int mb, .ref ea, .ref wa]))] s.heap.size = A at hD hA0 ⊢
  have hA : ∀ q : Nat, s.heap.size ≤ q → A q := fun q h => by rw [← hAe]; exact Or.inr h
  have hS : va_S A s.heap s.heap [] := va_S.rf
  have hl := lv_entry ([.ref h0]) (n := 1) (Nat.le_of_ble_eq_true rfl)
  rw [lg_entry_eq]
  generalize (lg_sl ([.ref h0]) ++ List.replicate (1 - (lg_sl ([.ref h0])).length) Slot.unset).toArray = ls at hl ⊢
  have hl : lv_has ls 1 [(0, .ref h0)] := hl
  refine lv_aload_n hx hb dR_clear_0 rfl (lv_at hl 0 rfl) ?_
  refine lv_iconst (v := 0) hx hb dR_clear_1 (by decide) ?_
  refine va_put (D := (dC, dI)) (ci := 3) (v := .int 0) (ty := .int) (C := xR_R) (T := xF_R) (N := 20) hx hb hts xi_R xt_R xt_R_ok xn_R hown hK hP hD hS 0 rfl rfl 0 (by decide) (hts _ xk_646) (fun _ h9 => h9) rfl (by decide +kernel) rfl rfl (Nat.le_of_ble_eq_true rfl) dR_clear_2 (fun H locs hP hD hS => ?_)
  have hP : va_P (dC, dI) classes [(h0, .inr (3, [.int 0, .ref ta, .int zs, .int po, .int fa, .ref da, .ref ra, .ref la, .long we, .long le, .int pk, .int pm, .int co, .ref pa, .int pl, .ref xa, .ref ya, .int mb, .ref ea, .ref wa]))] H := hP
  have hD : va_D A [(h0, .inr (3, [.int 0, .ref ta, .int zs, .int po, .int fa, .ref da, .ref ra, .ref la, .long we, .long le, .int pk, .int pm, .int co, .ref pa, .int pl, .ref xa, .ref ya, .int mb, .ref ea, .ref wa]))] := hD
  refine lv_aload_n hx hb dR_clear_5 rfl (lv_at hl 0 rfl) ?_
  refine lv_iconst (v := 0) hx hb dR_clear_6 (by decide) ?_
  refine va_put (D := (dC, dI)) (ci := 3) (v := .int 0) (ty := .int) (C := xR_R) (T := xF_R) (N := 20) hx hb hts xi_R xt_R xt_R_ok xn_R hown hK hP hD hS 0 rfl rfl 14 (by decide) (hts _ xk_660) (fun _ h9 => h9) rfl (by decide +kernel) rfl rfl (Nat.le_of_ble_eq_true rfl) dR_clear_7 (fun H locs hP hD hS => ?_)
  have hP : va_P (dC, dI) classes [(h0, .inr (3, [.int 0, .ref ta, .int zs, .int po, .int fa, .ref da, .ref ra, .ref la, .long we, .long le, .int pk, .int pm, .int co, .ref pa, .int 0, .ref xa, .ref ya, .int mb, .ref ea, .ref wa]))] H := hP
  have hD : va_D A [(h0, .inr (3, [.int 0, .ref ta, .int zs, .int po, .int fa, .ref da, .ref ra, .ref la, .long we, .long le, .int pk, .int pm, .int co, .ref pa, .int 0, .ref xa, .ref ya, .int mb, .ref ea, .ref wa]))] := hD
  have e_0 : gR_clear_0  = (0 : Int32) := rfl
  have e_1 : gR_clear_14  = (0 : Int32) := rfl
  have hP9 := hP.sub (ws' := [(h0, .inr (3, [.int 0, .ref ta, .int zs, .int po, .int fa, .ref da, .ref ra, .ref la, .long we, .long le, .int pk, .int pm, .int co, .ref pa, .int 0, .ref xa, .ref ya, .int mb, .ref ea, .ref wa]))]) [0] rfl
  have hD9 := hD.sub (ws' := [(h0, .inr (3, [.int 0, .ref ta, .int zs, .int po, .int fa, .ref da, .ref ra, .ref la, .long we, .long le, .int pk, .int pm, .int co, .ref pa, .int 0, .ref xa, .ref ya, .int mb, .ref ea, .ref wa]))]) [0] (by decide) rfl
  exact W.vret hx hb hr (fun t ht hW => ⟨_, _, rfl, ⟨by first | rfl | (simp only [e_0, e_1]; try rfl), by first | rfl | (simp only [e_0, e_1]; try rfl)⟩, by rw [ht]; exact hP9, hD9, hS.F ht⟩) hS.2.2 dR_clear_10

def gR_rule (rf : Nat → Int32) (kind : Int32) (what : Int32) : Int32 := if (fR_isFour kind) = true then (if (fR_isIn what.toInt64 (0) (6)) = true then (rf ((7 * kind) + what).toNatClampNeg) else ((0))) else ((0))
def gR_rule_0 (rf : Nat → Int32) (kind : Int32) (what : Int32) : Int32 := if (fR_isFour kind) = true then (if (fR_isIn what.toInt64 (0) (6)) = true then ((0)) else ((1))) else ((1))
set_option maxHeartbeats 4000000 in
set_option maxRecDepth 100000 in
theorem cR_rule (l : Launch) {s0 : State} {dC : Nat → ClassId} {dI : Nat → Nat → Nat} {cI cC cL cO : ClassId} (E : xb_Env l s0 dC dI (xtys cI cC cL cO)) (sz : Nat) (h0 : Nat) (ra : Nat) (th : Int32) (ta : Nat) (zs : Int32) (po : Int32) (fa : Int32) (da : Nat) (la : Nat) (we : Int64) (le : Int64) (pk : Int32) (pm : Int32) (co : Int32) (pa : Nat) (pl : Int32) (xa : Nat) (ya : Nat) (mb : Int32) (ea : Nat) (wa : Nat) (rf : Nat → Int32) (kind : Int32) (what : Int32) : Met l yR_rule [.code yR_rule bR_rule 3 (some (.int))] ({ frames := 1, cells := 0, slots := 0, locals := 25 }) (va_Pc [.ref h0, .int kind, .int what] (fun U => xb_At s0 U ∧ U.heap.size = sz ∧ va_P (dC, dI) classes [(h0, .inr (3, [.int th, .ref ta, .int zs, .int po, .int fa, .ref da, .ref ra, .ref la, .long we, .long le, .int pk, .int pm, .int co, .ref pa, .int pl, .ref xa, .ref ya, .int mb, .ref ea, .ref wa])), (ra, .inl (cI, 28, .inl rf))] U.heap ∧ va_D (fun q => s0.heap.size ≤ q) [(h0, .inr (3, [.int th, .ref ta, .int zs, .int po, .int fa, .ref da, .ref ra, .ref la, .long we, .long le, .int pk, .int pm, .int co, .ref pa, .int pl, .ref xa, .ref ya, .int mb, .ref ea, .ref wa])), (ra, .inl (cI, 28, .inl rf))])) (xb_W (dC, dI) (fun v9 w9 => v9 = some (.int (gR_rule rf kind what)) ∧ w9 = [(h0, .inr (3, [.int (gR_rule_0 rf kind what), .ref ta, .int zs, .int po, .int fa, .ref da, .ref ra, .ref la, .long we, .long le, .int pk, .int pm, .int co, .ref pa, .int pl, .ref xa, .ref ya, .int mb, .ref ea, .ref wa])), (ra, .inl (cI, 28, .inl rf))]) (va_A [(h0, .inr (3, [.int th, .ref ta, .int zs, .int po, .int fa, .ref da, .ref ra, .ref la, .long we, .long le, .int pk, .int pm, .int co, .ref pa, .int pl, .ref xa, .ref ya, .int mb, .ref ea, .ref wa])), (ra, .inl (cI, 28, .inl rf))] sz)) 0 0 (va_A [(h0, .inr (3, [.int th, .ref ta, .int zs, .int po, .int fa, .ref da, .ref ra, .ref la, .long we, .long le, .int pk, .int pm, .int co, .ref pa, .int pl, .ref xa, .ref ya, .int mb, .ref ea, .ref wa])), (ra, .inl (cI, 28, .inl rf))] sz) := by
  refine Met.ofW (cc := bR_rule) (maxL := 3) (ret := (some (.int))) (by decide) rfl ?_
  intro p e s m args below meth c s₁ B hml hv
  obtain ⟨rfl, hAt, hsz, hP, hD0⟩ := hv
  have hx := B.exec
  have hb := B.bytes
  have hr := B.returns
  have hts := xb_hts E hAt ([.ref h0, .int kind, .int what] : List Value).toArray
  have hown : s.vm.findClass "NailRulesModel" = some m.cls := findClass_of_methodNamed B.named
  have hlocks := B.notSynchronized
  have hK := xb_K E hAt
  subst hsz
  have hA0 := xb_A0 hAt hD0
  have hD := hD0.self (sz := s.heap.size)
  generalize hAe : va_A [(h0, .inr (3, [.int th, .ref ta, .int zs, .int po, .int fa, .ref da, .ref ra, .ref la, .long we, .long le, .int pk, .int pm, .int co, .ref pa, .int pl, .ref xa, .ref ya, .int mb, .ref ea, .ref wa])), (ra, .inl (cI, 28, .inl rf))] s.heap.size = A at hD hA0 ⊢
  have hA : ∀ q : Nat, s.heap.size ≤ q → A q := fun q h => by rw [← hAe]; exact Or.inr h
  have hS : va_S A s.heap s.heap [] := va_S.rf
  have hl := lv_entry ([.ref h0, .int kind, .int what]) (n := 3) (Nat.le_of_ble_eq_true rfl)
  rw [lg_entry_eq]
  generalize (lg_sl ([.ref h0, .int kind, .int what]) ++ List.replicate (3 - (lg_sl ([.ref h0, .int kind, .int what])).length) Slot.unset).toArray = ls at hl ⊢
  have hl : lv_has ls 3 [(0, .ref h0), (1, .int kind), (2, .int what)] := hl
  refine lv_aload_n hx hb dR_rule_0 rfl (lv_at hl 0 rfl) ?_
  refine lv_iload_n hx hb dR_rule_1 rfl (lv_at hl 1 rfl) ?_
  refine xb_rd (W.runS (As := [.int kind]) (rest := [.ref h0]) ⟨hx, hb, hml, hown, hts⟩ (cR_isFour l E kind) (cwS 1 hts (xb_gi (List.forall_mem_cons.mpr ⟨xk_750, List.forall_mem_cons.mpr ⟨xk_751, List.forall_mem_cons.mpr ⟨xk_45, List.forall_mem_cons.mpr ⟨xk_752, fun _ h => absurd h List.not_mem_nil⟩⟩⟩⟩)) rfl rfl rfl (by decide +kernel) ⟨Nat.le_of_ble_eq_true rfl, Nat.le_of_ble_eq_true rfl⟩) ⟨fun _ _ _ _ q => q, fun U hU hW => ⟨rfl, xb_atS hAt hS hA0 hU hW, fun k q h => by simp at h⟩⟩ rfl rfl hl.1 rfl (lv_room (Nat.le_of_ble_eq_true rfl)) dR_rule_2 ⟨Nat.zero_le _, Nat.zero_le _⟩) ?_
  refine lv_if_eq (tgt := 24) hx hb dR_rule_5 (by decide) (fun c_1 => ?_) (fun c_1 => ?_)
  · have c_1 := xb_bi_f.mp c_1
    refine lv_iconst (v := 1) hx hb dR_rule_24 (by decide) ?_
    refine va_put (D := (dC, dI)) (ci := 3) (v := .int 1) (ty := .int) (C := xR_R) (T := xF_R) (N := 20) hx hb hts xi_R xt_R xt_R_ok xn_R hown hK hP hD hS 0 rfl rfl 0 (by decide) (hts _ xk_646) (fun _ h9 => h9) rfl (by decide +kernel) rfl rfl (Nat.le_of_ble_eq_true rfl) dR_rule_25 (fun H locs hP hD hS => ?_)
    have hP : va_P (dC, dI) classes [(h0, .inr (3, [.int 1, .ref ta, .int zs, .int po, .int fa, .ref da, .ref ra, .ref la, .long we, .long le, .int pk, .int pm, .int co, .ref pa, .int pl, .ref xa, .ref ya, .int mb, .ref ea, .ref wa])), (ra, .inl (cI, 28, .inl rf))] H := hP
    have hD : va_D A [(h0, .inr (3, [.int 1, .ref ta, .int zs, .int po, .int fa, .ref da, .ref ra, .ref la, .long we, .long le, .int pk, .int pm, .int co, .ref pa, .int pl, .ref xa, .ref ya, .int mb, .ref ea, .ref wa])), (ra, .inl (cI, 28, .inl rf))] := hD
    refine lv_aload_n hx hb dR_rule_28 rfl (lv_at hl 0 rfl) ?_
    refine va_get (D := (dC, dI)) (ci := 3) (v := .int 1) (C := xR_R) (T := xF_R) (N := 20) hx hb hts xi_R hown hK hP 0 rfl rfl 0 (by decide) (hts _ xk_646) (fun _ h9 => h9) rfl dR_rule_29 ?_
    refine lv_if_le (tgt := 39) hx hb dR_rule_32 (by decide) (fun c_2 => ?_) (fun c_2 => ?_)
    · exact absurd c_2 (by decide)
    · refine lv_iconst (v := 0) hx hb dR_rule_35 (by decide) ?_
      refine lv_goto (tgt := 50) hx hb dR_rule_36 (by decide) ?_
      have e_0 : gR_rule rf kind what = (0 : Int32) := (if_neg c_1).trans (rfl)
      have e_1 : gR_rule_0 rf kind what = (1 : Int32) := (if_neg c_1).trans (rfl)
      have hP9 := hP.sub (ws' := [(h0, .inr (3, [.int 1, .ref ta, .int zs, .int po, .int fa, .ref da, .ref ra, .ref la, .long we, .long le, .int pk, .int pm, .int co, .ref pa, .int pl, .ref xa, .ref ya, .int mb, .ref ea, .ref wa])), (ra, .inl (cI, 28, .inl rf))]) [0, 1] rfl
      have hD9 := hD.sub (ws' := [(h0, .inr (3, [.int 1, .ref ta, .int zs, .int po, .int fa, .ref da, .ref ra, .ref la, .long we, .long le, .int pk, .int pm, .int co, .ref pa, .int pl, .ref xa, .ref ya, .int mb, .ref ea, .ref wa])), (ra, .inl (cI, 28, .inl rf))]) [0, 1] (by decide) rfl
      exact W.iret (v := 0) hx hb hr (fun t ht hW => ⟨_, _, rfl, ⟨by first | rfl | (simp only [e_0, e_1]; try rfl), by first | rfl | (simp only [e_0, e_1]; try rfl)⟩, by rw [ht]; exact hP9, hD9, hS.F ht⟩) hS.2.2 dR_rule_50
  · have c_1 := xb_bi_t.mp c_1
    refine lv_iload_n hx hb dR_rule_8 rfl (lv_at hl 2 rfl) ?_
    refine lv_i2l hx hb dR_rule_9 rfl ?_
    refine lv_lconst (v := 0) hx hb dR_rule_10 (by decide) ?_
    refine lv_ldc2 (v := 6) hx hb hown (hts _ xk_753) dR_rule_11 ?_
    refine xb_rd (W.runS (As := [.long what.toInt64, .long 0, .long 6]) (rest := [.ref h0]) ⟨hx, hb, hml, hown, hts⟩ (cR_isIn l E what.toInt64 0 6) (cwS 3 hts (xb_gi (List.forall_mem_cons.mpr ⟨xk_754, List.forall_mem_cons.mpr ⟨xk_755, List.forall_mem_cons.mpr ⟨xk_45, List.forall_mem_cons.mpr ⟨xk_756, fun _ h => absurd h List.not_mem_nil⟩⟩⟩⟩)) rfl rfl rfl (by decide +kernel) ⟨Nat.le_of_ble_eq_true rfl, Nat.le_of_ble_eq_true rfl⟩) ⟨fun _ _ _ _ q => q, fun U hU hW => ⟨rfl, xb_atS hAt hS hA0 hU hW, fun k q h => by simp at h⟩⟩ rfl rfl hl.1 rfl (lv_room (Nat.le_of_ble_eq_true rfl)) dR_rule_14 ⟨Nat.zero_le _, Nat.zero_le _⟩) ?_
    refine lv_if_eq (tgt := 24) hx hb dR_rule_17 (by decide) (fun c_3 => ?_) (fun c_3 => ?_)
    · have c_3 := xb_bi_f.mp c_3
      refine lv_iconst (v := 1) hx hb dR_rule_24 (by decide) ?_
      refine va_put (D := (dC, dI)) (ci := 3) (v := .int 1) (ty := .int) (C := xR_R) (T := xF_R) (N := 20) hx hb hts xi_R xt_R xt_R_ok xn_R hown hK hP hD hS 0 rfl rfl 0 (by decide) (hts _ xk_646) (fun _ h9 => h9) rfl (by decide +kernel) rfl rfl (Nat.le_of_ble_eq_true rfl) dR_rule_25 (fun H locs hP hD hS => ?_)
      have hP : va_P (dC, dI) classes [(h0, .inr (3, [.int 1, .ref ta, .int zs, .int po, .int fa, .ref da, .ref ra, .ref la, .long we, .long le, .int pk, .int pm, .int co, .ref pa, .int pl, .ref xa, .ref ya, .int mb, .ref ea, .ref wa])), (ra, .inl (cI, 28, .inl rf))] H := hP
      have hD : va_D A [(h0, .inr (3, [.int 1, .ref ta, .int zs, .int po, .int fa, .ref da, .ref ra, .ref la, .long we, .long le, .int pk, .int pm, .int co, .ref pa, .int pl, .ref xa, .ref ya, .int mb, .ref ea, .ref wa])), (ra, .inl (cI, 28, .inl rf))] := hD
      refine lv_aload_n hx hb dR_rule_28 rfl (lv_at hl 0 rfl) ?_
      refine va_get (D := (dC, dI)) (ci := 3) (v := .int 1) (C := xR_R) (T := xF_R) (N := 20) hx hb hts xi_R hown hK hP 0 rfl rfl 0 (by decide) (hts _ xk_646) (fun _ h9 => h9) rfl dR_rule_29 ?_
      refine lv_if_le (tgt := 39) hx hb dR_rule_32 (by decide) (fun c_4 => ?_) (fun c_4 => ?_)
      · exact absurd c_4 (by decide)
      · refine lv_iconst (v := 0) hx hb dR_rule_35 (by decide) ?_
        refine lv_goto (tgt := 50) hx hb dR_rule_36 (by decide) ?_
        have e_0 : gR_rule rf kind what = (0 : Int32) := (if_pos c_1).trans ((if_neg c_3).trans (rfl))
        have e_1 : gR_rule_0 rf kind what = (1 : Int32) := (if_pos c_1).trans ((if_neg c_3).trans (rfl))
        have hP9 := hP.sub (ws' := [(h0, .inr (3, [.int 1, .ref ta, .int zs, .int po, .int fa, .ref da, .ref ra, .ref la, .long we, .long le, .int pk, .int pm, .int co, .ref pa, .int pl, .ref xa, .ref ya, .int mb, .ref ea, .ref wa])), (ra, .inl (cI, 28, .inl rf))]) [0, 1] rfl
        have hD9 := hD.sub (ws' := [(h0, .inr (3, [.int 1, .ref ta, .int zs, .int po, .int fa, .ref da, .ref ra, .ref la, .long we, .long le, .int pk, .int pm, .int co, .ref pa, .int pl, .ref xa, .ref ya, .int mb, .ref ea, .ref wa])), (ra, .inl (cI, 28, .inl rf))]) [0, 1] (by decide) rfl
        exact W.iret (v := 0) hx hb hr (fun t ht hW => ⟨_, _, rfl, ⟨by first | rfl | (simp only [e_0, e_1]; try rfl), by first | rfl | (simp only [e_0, e_1]; try rfl)⟩, by rw [ht]; exact hP9, hD9, hS.F ht⟩) hS.2.2 dR_rule_50
    · have c_3 := xb_bi_t.mp c_3
      refine lv_iconst (v := 0) hx hb dR_rule_20 (by decide) ?_
      refine lv_goto (tgt := 25) hx hb dR_rule_21 (by decide) ?_
      refine va_put (D := (dC, dI)) (ci := 3) (v := .int 0) (ty := .int) (C := xR_R) (T := xF_R) (N := 20) hx hb hts xi_R xt_R xt_R_ok xn_R hown hK hP hD hS 0 rfl rfl 0 (by decide) (hts _ xk_646) (fun _ h9 => h9) rfl (by decide +kernel) rfl rfl (Nat.le_of_ble_eq_true rfl) dR_rule_25 (fun H locs hP hD hS => ?_)
      have hP : va_P (dC, dI) classes [(h0, .inr (3, [.int 0, .ref ta, .int zs, .int po, .int fa, .ref da, .ref ra, .ref la, .long we, .long le, .int pk, .int pm, .int co, .ref pa, .int pl, .ref xa, .ref ya, .int mb, .ref ea, .ref wa])), (ra, .inl (cI, 28, .inl rf))] H := hP
      have hD : va_D A [(h0, .inr (3, [.int 0, .ref ta, .int zs, .int po, .int fa, .ref da, .ref ra, .ref la, .long we, .long le, .int pk, .int pm, .int co, .ref pa, .int pl, .ref xa, .ref ya, .int mb, .ref ea, .ref wa])), (ra, .inl (cI, 28, .inl rf))] := hD
      refine lv_aload_n hx hb dR_rule_28 rfl (lv_at hl 0 rfl) ?_
      refine va_get (D := (dC, dI)) (ci := 3) (v := .int 0) (C := xR_R) (T := xF_R) (N := 20) hx hb hts xi_R hown hK hP 0 rfl rfl 0 (by decide) (hts _ xk_646) (fun _ h9 => h9) rfl dR_rule_29 ?_
      refine lv_if_le (tgt := 39) hx hb dR_rule_32 (by decide) (fun c_5 => ?_) (fun c_5 => ?_)
      · refine lv_aload_n hx hb dR_rule_39 rfl (lv_at hl 0 rfl) ?_
        refine va_get (D := (dC, dI)) (ci := 3) (v := .ref ra) (C := xR_R) (T := xF_R) (N := 20) hx hb hts xi_R hown hK hP 0 rfl rfl 6 (by decide) (hts _ xk_652) (fun _ h9 => h9) rfl dR_rule_40 ?_
        refine lv_bipush (v := 7) hx hb dR_rule_43 (by decide) ?_
        refine lv_iload_n hx hb dR_rule_45 rfl (lv_at hl 1 rfl) ?_
        refine lv_imul hx hb dR_rule_46 ?_
        refine lv_iload_n hx hb dR_rule_47 rfl (lv_at hl 2 rfl) ?_
        refine lv_iadd hx hb dR_rule_48 ?_
        have o_6 : vp_in ((7 * kind) + what) 28 := by exact xp_rule (by assumption) (by assumption)
        refine va_iald hx hb hK hP 1 0 rfl rfl o_6 dR_rule_49 ?_
        have e_0 : gR_rule rf kind what = (rf ((7 * kind) + what).toNatClampNeg) := (if_pos c_1).trans ((if_pos c_3).trans (rfl))
        have e_1 : gR_rule_0 rf kind what = (0 : Int32) := (if_pos c_1).trans ((if_pos c_3).trans (rfl))
        have hP9 := hP.sub (ws' := [(h0, .inr (3, [.int 0, .ref ta, .int zs, .int po, .int fa, .ref da, .ref ra, .ref la, .long we, .long le, .int pk, .int pm, .int co, .ref pa, .int pl, .ref xa, .ref ya, .int mb, .ref ea, .ref wa])), (ra, .inl (cI, 28, .inl rf))]) [0, 1] rfl
        have hD9 := hD.sub (ws' := [(h0, .inr (3, [.int 0, .ref ta, .int zs, .int po, .int fa, .ref da, .ref ra, .ref la, .long we, .long le, .int pk, .int pm, .int co, .ref pa, .int pl, .ref xa, .ref ya, .int mb, .ref ea, .ref wa])), (ra, .inl (cI, 28, .inl rf))]) [0, 1] (by decide) rfl
        exact W.iret (v := (rf ((7 * kind) + what).toNatClampNeg)) hx hb hr (fun t ht hW => ⟨_, _, rfl, ⟨by first | rfl | (simp only [e_0, e_1]; try rfl), by first | rfl | (simp only [e_0, e_1]; try rfl)⟩, by rw [ht]; exact hP9, hD9, hS.F ht⟩) hS.2.2 dR_rule_50
      · exact absurd c_5 (by decide)

def gR_set_0 (we : Int64) (le : Int64) (what : Int32) (pct : Int32) : Int32 := if what < 0 then ((1)) else (if what ≤ 1 then (if (fR_isIn pct.toInt64 (1 - what.toInt64) (100)) = true then (if what = 0 then ((0)) else ((0))) else ((2))) else ((1)))
def gR_set_8 (we : Int64) (le : Int64) (what : Int32) (pct : Int32) : Int64 := if what < 0 then (we) else (if what ≤ 1 then (if (fR_isIn pct.toInt64 (1 - what.toInt64) (100)) = true then (if what = 0 then (pct.toInt64) else (we)) else (we)) else (we))
def gR_set_9 (we : Int64) (le : Int64) (what : Int32) (pct : Int32) : Int64 := if what < 0 then (le) else (if what ≤ 1 then (if (fR_isIn pct.toInt64 (1 - what.toInt64) (100)) = true then (if what = 0 then (le) else (pct.toInt64)) else (le)) else (le))
set_option maxHeartbeats 4000000 in
set_option maxRecDepth 100000 in
theorem cR_set (l : Launch) {s0 : State} {dC : Nat → ClassId} {dI : Nat → Nat → Nat} {cI cC cL cO : ClassId} (E : xb_Env l s0 dC dI (xtys cI cC cL cO)) (sz : Nat) (h0 : Nat) (th : Int32) (ta : Nat) (zs : Int32) (po : Int32) (fa : Int32) (da : Nat) (ra : Nat) (la : Nat) (we : Int64) (le : Int64) (pk : Int32) (pm : Int32) (co : Int32) (pa : Nat) (pl : Int32) (xa : Nat) (ya : Nat) (mb : Int32) (ea : Nat) (wa : Nat) (what : Int32) (pct : Int32) : Met l yR_set [.code yR_set bR_set 3 none] ({ frames := 1, cells := 0, slots := 0, locals := 25 }) (va_Pc [.ref h0, .int what, .int pct] (fun U => xb_At s0 U ∧ U.heap.size = sz ∧ va_P (dC, dI) classes [(h0, .inr (3, [.int th, .ref ta, .int zs, .int po, .int fa, .ref da, .ref ra, .ref la, .long we, .long le, .int pk, .int pm, .int co, .ref pa, .int pl, .ref xa, .ref ya, .int mb, .ref ea, .ref wa]))] U.heap ∧ va_D (fun q => s0.heap.size ≤ q) [(h0, .inr (3, [.int th, .ref ta, .int zs, .int po, .int fa, .ref da, .ref ra, .ref la, .long we, .long le, .int pk, .int pm, .int co, .ref pa, .int pl, .ref xa, .ref ya, .int mb, .ref ea, .ref wa]))])) (xb_W (dC, dI) (fun v9 w9 => v9 = none ∧ w9 = [(h0, .inr (3, [.int (gR_set_0 we le what pct), .ref ta, .int zs, .int po, .int fa, .ref da, .ref ra, .ref la, .long (gR_set_8 we le what pct), .long (gR_set_9 we le what pct), .int pk, .int pm, .int co, .ref pa, .int pl, .ref xa, .ref ya, .int mb, .ref ea, .ref wa]))]) (va_A [(h0, .inr (3, [.int th, .ref ta, .int zs, .int po, .int fa, .ref da, .ref ra, .ref la, .long we, .long le, .int pk, .int pm, .int co, .ref pa, .int pl, .ref xa, .ref ya, .int mb, .ref ea, .ref wa]))] sz)) 0 0 (va_A [(h0, .inr (3, [.int th, .ref ta, .int zs, .int po, .int fa, .ref da, .ref ra, .ref la, .long we, .long le, .int pk, .int pm, .int co, .ref pa, .int pl, .ref xa, .ref ya, .int mb, .ref ea, .ref wa]))] sz) := by
  refine Met.ofW (cc := bR_set) (maxL := 3) (ret := none) (by decide) rfl ?_
  intro p e s m args below meth c s₁ B hml hv
  obtain ⟨rfl, hAt, hsz, hP, hD0⟩ := hv
  have hx := B.exec
  have hb := B.bytes
  have hr := B.returns
  have hts := xb_hts E hAt ([.ref h0, .int what, .int pct] : List Value).toArray
  have hown : s.vm.findClass "NailRulesModel" = some m.cls := findClass_of_methodNamed B.named
  have hlocks := B.notSynchronized
  have hK := xb_K E hAt
  subst hsz
  have hA0 := xb_A0 hAt hD0
  have hD := hD0.self (sz := s.heap.size)
  generalize hAe : va_A [(h0, .inr (3, [.int th, .ref ta, .int zs, .int po, .int fa, .ref da, .ref ra, .ref la, .long we, .long le, .int pk, .int pm, .int co, .ref pa, .int pl, .ref xa, .ref ya, .int mb, .ref ea, .ref wa]))] s.heap.size = A at hD hA0 ⊢
  have hA : ∀ q : Nat, s.heap.size ≤ q → A q := fun q h => by rw [← hAe]; exact Or.inr h
  have hS : va_S A s.heap s.heap [] := va_S.rf
  have hl := lv_entry ([.ref h0, .int what, .int pct]) (n := 3) (Nat.le_of_ble_eq_true rfl)
  rw [lg_entry_eq]
  generalize (lg_sl ([.ref h0, .int what, .int pct]) ++ List.replicate (3 - (lg_sl ([.ref h0, .int what, .int pct])).length) Slot.unset).toArray = ls at hl ⊢
  have hl : lv_has ls 3 [(0, .ref h0), (1, .int what), (2, .int pct)] := hl
  refine lv_aload_n hx hb dR_set_0 rfl (lv_at hl 0 rfl) ?_
  refine lv_iload_n hx hb dR_set_1 rfl (lv_at hl 1 rfl) ?_
  refine lv_if_lt (tgt := 10) hx hb dR_set_2 (by decide) (fun c_1 => ?_) (fun c_1 => ?_)
  · refine lv_iconst (v := 1) hx hb dR_set_10 (by decide) ?_
    refine lv_goto (tgt := 34) hx hb dR_set_11 (by decide) ?_
    refine va_put (D := (dC, dI)) (ci := 3) (v := .int 1) (ty := .int) (C := xR_R) (T := xF_R) (N := 20) hx hb hts xi_R xt_R xt_R_ok xn_R hown hK hP hD hS 0 rfl rfl 0 (by decide) (hts _ xk_646) (fun _ h9 => h9) rfl (by decide +kernel) rfl rfl (Nat.le_of_ble_eq_true rfl) dR_set_34 (fun H locs hP hD hS => ?_)
    have hP : va_P (dC, dI) classes [(h0, .inr (3, [.int 1, .ref ta, .int zs, .int po, .int fa, .ref da, .ref ra, .ref la, .long we, .long le, .int pk, .int pm, .int co, .ref pa, .int pl, .ref xa, .ref ya, .int mb, .ref ea, .ref wa]))] H := hP
    have hD : va_D A [(h0, .inr (3, [.int 1, .ref ta, .int zs, .int po, .int fa, .ref da, .ref ra, .ref la, .long we, .long le, .int pk, .int pm, .int co, .ref pa, .int pl, .ref xa, .ref ya, .int mb, .ref ea, .ref wa]))] := hD
    refine lv_aload_n hx hb dR_set_37 rfl (lv_at hl 0 rfl) ?_
    refine va_get (D := (dC, dI)) (ci := 3) (v := .int 1) (C := xR_R) (T := xF_R) (N := 20) hx hb hts xi_R hown hK hP 0 rfl rfl 0 (by decide) (hts _ xk_646) (fun _ h9 => h9) rfl dR_set_38 ?_
    refine lv_if_ne (tgt := 57) hx hb dR_set_41 (by decide) (fun c_2 => ?_) (fun c_2 => ?_)
    · refine lv_aload_n hx hb dR_set_57 rfl (lv_at hl 0 rfl) ?_
      refine va_get (D := (dC, dI)) (ci := 3) (v := .int 1) (C := xR_R) (T := xF_R) (N := 20) hx hb hts xi_R hown hK hP 0 rfl rfl 0 (by decide) (hts _ xk_646) (fun _ h9 => h9) rfl dR_set_58 ?_
      refine lv_if_ne (tgt := 70) hx hb dR_set_61 (by decide) (fun c_3 => ?_) (fun c_3 => ?_)
      · have e_0 : gR_set_0 we le what pct = (1 : Int32) := (if_pos c_1).trans (rfl)
        have e_1 : gR_set_8 we le what pct = we := (if_pos c_1).trans (rfl)
        have e_2 : gR_set_9 we le what pct = le := (if_pos c_1).trans (rfl)
        have hP9 := hP.sub (ws' := [(h0, .inr (3, [.int 1, .ref ta, .int zs, .int po, .int fa, .ref da, .ref ra, .ref la, .long we, .long le, .int pk, .int pm, .int co, .ref pa, .int pl, .ref xa, .ref ya, .int mb, .ref ea, .ref wa]))]) [0] rfl
        have hD9 := hD.sub (ws' := [(h0, .inr (3, [.int 1, .ref ta, .int zs, .int po, .int fa, .ref da, .ref ra, .ref la, .long we, .long le, .int pk, .int pm, .int co, .ref pa, .int pl, .ref xa, .ref ya, .int mb, .ref ea, .ref wa]))]) [0] (by decide) rfl
        exact W.vret hx hb hr (fun t ht hW => ⟨_, _, rfl, ⟨by first | rfl | (simp only [e_0, e_1, e_2]; try rfl), by first | rfl | (simp only [e_0, e_1, e_2]; try rfl)⟩, by rw [ht]; exact hP9, hD9, hS.F ht⟩) hS.2.2 dR_set_70
      · exact absurd c_3 (by decide)
    · exact absurd c_2 (by decide)
  · refine lv_iload_n hx hb dR_set_5 rfl (lv_at hl 1 rfl) ?_
    refine lv_iconst (v := 1) hx hb dR_set_6 (by decide) ?_
    refine lv_icmp_le (tgt := 14) hx hb dR_set_7 (by decide) (fun c_4 => ?_) (fun c_4 => ?_)
    · refine lv_iload_n hx hb dR_set_14 rfl (lv_at hl 2 rfl) ?_
      refine lv_i2l hx hb dR_set_15 rfl ?_
      refine lv_lconst (v := 1) hx hb dR_set_16 (by decide) ?_
      refine lv_iload_n hx hb dR_set_17 rfl (lv_at hl 1 rfl) ?_
      refine lv_i2l hx hb dR_set_18 rfl ?_
      refine lv_lsub hx hb dR_set_19 ?_
      refine lv_ldc2 (v := 100) hx hb hown (hts _ xk_644) dR_set_20 ?_
      refine xb_rd (W.runS (As := [.long pct.toInt64, .long (1 - what.toInt64), .long 100]) (rest := [.ref h0]) ⟨hx, hb, hml, hown, hts⟩ (cR_isIn l E pct.toInt64 (1 - what.toInt64) 100) (cwS 3 hts (xb_gi (List.forall_mem_cons.mpr ⟨xk_754, List.forall_mem_cons.mpr ⟨xk_755, List.forall_mem_cons.mpr ⟨xk_45, List.forall_mem_cons.mpr ⟨xk_756, fun _ h => absurd h List.not_mem_nil⟩⟩⟩⟩)) rfl rfl rfl (by decide +kernel) ⟨Nat.le_of_ble_eq_true rfl, Nat.le_of_ble_eq_true rfl⟩) ⟨fun _ _ _ _ q => q, fun U hU hW => ⟨rfl, xb_atS hAt hS hA0 hU hW, fun k q h => by simp at h⟩⟩ rfl rfl hl.1 rfl (lv_room (Nat.le_of_ble_eq_true rfl)) dR_set_23 ⟨Nat.zero_le _, Nat.zero_le _⟩) ?_
      refine lv_if_eq (tgt := 33) hx hb dR_set_26 (by decide) (fun c_5 => ?_) (fun c_5 => ?_)
      · have c_5 := xb_bi_f.mp c_5
        refine lv_iconst (v := 2) hx hb dR_set_33 (by decide) ?_
        refine va_put (D := (dC, dI)) (ci := 3) (v := .int 2) (ty := .int) (C := xR_R) (T := xF_R) (N := 20) hx hb hts xi_R xt_R xt_R_ok xn_R hown hK hP hD hS 0 rfl rfl 0 (by decide) (hts _ xk_646) (fun _ h9 => h9) rfl (by decide +kernel) rfl rfl (Nat.le_of_ble_eq_true rfl) dR_set_34 (fun H locs hP hD hS => ?_)
        have hP : va_P (dC, dI) classes [(h0, .inr (3, [.int 2, .ref ta, .int zs, .int po, .int fa, .ref da, .ref ra, .ref la, .long we, .long le, .int pk, .int pm, .int co, .ref pa, .int pl, .ref xa, .ref ya, .int mb, .ref ea, .ref wa]))] H := hP
        have hD : va_D A [(h0, .inr (3, [.int 2, .ref ta, .int zs, .int po, .int fa, .ref da, .ref ra, .ref la, .long we, .long le, .int pk, .int pm, .int co, .ref pa, .int pl, .ref xa, .ref ya, .int mb, .ref ea, .ref wa]))] := hD
        refine lv_aload_n hx hb dR_set_37 rfl (lv_at hl 0 rfl) ?_
        refine va_get (D := (dC, dI)) (ci := 3) (v := .int 2) (C := xR_R) (T := xF_R) (N := 20) hx hb hts xi_R hown hK hP 0 rfl rfl 0 (by decide) (hts _ xk_646) (fun _ h9 => h9) rfl dR_set_38 ?_
        refine lv_if_ne (tgt := 57) hx hb dR_set_41 (by decide) (fun c_6 => ?_) (fun c_6 => ?_)
        · refine lv_aload_n hx hb dR_set_57 rfl (lv_at hl 0 rfl) ?_
          refine va_get (D := (dC, dI)) (ci := 3) (v := .int 2) (C := xR_R) (T := xF_R) (N := 20) hx hb hts xi_R hown hK hP 0 rfl rfl 0 (by decide) (hts _ xk_646) (fun _ h9 => h9) rfl dR_set_58 ?_
          refine lv_if_ne (tgt := 70) hx hb dR_set_61 (by decide) (fun c_7 => ?_) (fun c_7 => ?_)
          · have e_0 : gR_set_0 we le what pct = (2 : Int32) := (if_neg c_1).trans ((if_pos c_4).trans ((if_neg c_5).trans (rfl)))
            have e_1 : gR_set_8 we le what pct = we := (if_neg c_1).trans ((if_pos c_4).trans ((if_neg c_5).trans (rfl)))
            have e_2 : gR_set_9 we le what pct = le := (if_neg c_1).trans ((if_pos c_4).trans ((if_neg c_5).trans (rfl)))
            have hP9 := hP.sub (ws' := [(h0, .inr (3, [.int 2, .ref ta, .int zs, .int po, .int fa, .ref da, .ref ra, .ref la, .long we, .long le, .int pk, .int pm, .int co, .ref pa, .int pl, .ref xa, .ref ya, .int mb, .ref ea, .ref wa]))]) [0] rfl
            have hD9 := hD.sub (ws' := [(h0, .inr (3, [.int 2, .ref ta, .int zs, .int po, .int fa, .ref da, .ref ra, .ref la, .long we, .long le, .int pk, .int pm, .int co, .ref pa, .int pl, .ref xa, .ref ya, .int mb, .ref ea, .ref wa]))]) [0] (by decide) rfl
            exact W.vret hx hb hr (fun t ht hW => ⟨_, _, rfl, ⟨by first | rfl | (simp only [e_0, e_1, e_2]; try rfl), by first | rfl | (simp only [e_0, e_1, e_2]; try rfl)⟩, by rw [ht]; exact hP9, hD9, hS.F ht⟩) hS.2.2 dR_set_70
          · exact absurd c_7 (by decide)
        · exact absurd c_6 (by decide)
      · have c_5 := xb_bi_t.mp c_5
        refine lv_iconst (v := 0) hx hb dR_set_29 (by decide) ?_
        refine lv_goto (tgt := 34) hx hb dR_set_30 (by decide) ?_
        refine va_put (D := (dC, dI)) (ci := 3) (v := .int 0) (ty := .int) (C := xR_R) (T := xF_R) (N := 20) hx hb hts xi_R xt_R xt_R_ok xn_R hown hK hP hD hS 0 rfl rfl 0 (by decide) (hts _ xk_646) (fun _ h9 => h9) rfl (by decide +kernel) rfl rfl (Nat.le_of_ble_eq_true rfl) dR_set_34 (fun H locs hP hD hS => ?_)
        have hP : va_P (dC, dI) classes [(h0, .inr (3, [.int 0, .ref ta, .int zs, .int po, .int fa, .ref da, .ref ra, .ref la, .long we, .long le, .int pk, .int pm, .int co, .ref pa, .int pl, .ref xa, .ref ya, .int mb, .ref ea, .ref wa]))] H := hP
        have hD : va_D A [(h0, .inr (3, [.int 0, .ref ta, .int zs, .int po, .int fa, .ref da, .ref ra, .ref la, .long we, .long le, .int pk, .int pm, .int co, .ref pa, .int pl, .ref xa, .ref ya, .int mb, .ref ea, .ref wa]))] := hD
        refine lv_aload_n hx hb dR_set_37 rfl (lv_at hl 0 rfl) ?_
        refine va_get (D := (dC, dI)) (ci := 3) (v := .int 0) (C := xR_R) (T := xF_R) (N := 20) hx hb hts xi_R hown hK hP 0 rfl rfl 0 (by decide) (hts _ xk_646) (fun _ h9 => h9) rfl dR_set_38 ?_
        refine lv_if_ne (tgt := 57) hx hb dR_set_41 (by decide) (fun c_8 => ?_) (fun c_8 => ?_)
        · exact absurd c_8 (by decide)
        · refine lv_iload_n hx hb dR_set_44 rfl (lv_at hl 1 rfl) ?_
          refine lv_if_ne (tgt := 57) hx hb dR_set_45 (by decide) (fun c_9 => ?_) (fun c_9 => ?_)
          · refine lv_aload_n hx hb dR_set_57 rfl (lv_at hl 0 rfl) ?_
            refine va_get (D := (dC, dI)) (ci := 3) (v := .int 0) (C := xR_R) (T := xF_R) (N := 20) hx hb hts xi_R hown hK hP 0 rfl rfl 0 (by decide) (hts _ xk_646) (fun _ h9 => h9) rfl dR_set_58 ?_
            refine lv_if_ne (tgt := 70) hx hb dR_set_61 (by decide) (fun c_10 => ?_) (fun c_10 => ?_)
            · exact absurd c_10 (by decide)
            · refine lv_aload_n hx hb dR_set_64 rfl (lv_at hl 0 rfl) ?_
              refine lv_iload_n hx hb dR_set_65 rfl (lv_at hl 2 rfl) ?_
              refine lv_i2l hx hb dR_set_66 rfl ?_
              refine va_put (D := (dC, dI)) (ci := 3) (v := .long pct.toInt64) (ty := .long) (C := xR_R) (T := xF_R) (N := 20) hx hb hts xi_R xt_R xt_R_ok xn_R hown hK hP hD hS 0 rfl rfl 9 (by decide) (hts _ xk_655) (fun _ h9 => h9) rfl (by decide +kernel) rfl rfl (Nat.le_of_ble_eq_true rfl) dR_set_67 (fun H locs hP hD hS => ?_)
              have hP : va_P (dC, dI) classes [(h0, .inr (3, [.int 0, .ref ta, .int zs, .int po, .int fa, .ref da, .ref ra, .ref la, .long we, .long pct.toInt64, .int pk, .int pm, .int co, .ref pa, .int pl, .ref xa, .ref ya, .int mb, .ref ea, .ref wa]))] H := hP
              have hD : va_D A [(h0, .inr (3, [.int 0, .ref ta, .int zs, .int po, .int fa, .ref da, .ref ra, .ref la, .long we, .long pct.toInt64, .int pk, .int pm, .int co, .ref pa, .int pl, .ref xa, .ref ya, .int mb, .ref ea, .ref wa]))] := hD
              have e_0 : gR_set_0 we le what pct = (0 : Int32) := (if_neg c_1).trans ((if_pos c_4).trans ((if_pos c_5).trans ((if_neg c_9).trans (rfl))))
              have e_1 : gR_set_8 we le what pct = we := (if_neg c_1).trans ((if_pos c_4).trans ((if_pos c_5).trans ((if_neg c_9).trans (rfl))))
              have e_2 : gR_set_9 we le what pct = pct.toInt64 := (if_neg c_1).trans ((if_pos c_4).trans ((if_pos c_5).trans ((if_neg c_9).trans (rfl))))
              have hP9 := hP.sub (ws' := [(h0, .inr (3, [.int 0, .ref ta, .int zs, .int po, .int fa, .ref da, .ref ra, .ref la, .long we, .long pct.toInt64, .int pk, .int pm, .int co, .ref pa, .int pl, .ref xa, .ref ya, .int mb, .ref ea, .ref wa]))]) [0] rfl
              have hD9 := hD.sub (ws' := [(h0, .inr (3, [.int 0, .ref ta, .int zs, .int po, .int fa, .ref da, .ref ra, .ref la, .long we, .long pct.toInt64, .int pk, .int pm, .int co, .ref pa, .int pl, .ref xa, .ref ya, .int mb, .ref ea, .ref wa]))]) [0] (by decide) rfl
              exact W.vret hx hb hr (fun t ht hW => ⟨_, _, rfl, ⟨by first | rfl | (simp only [e_0, e_1, e_2]; try rfl), by first | rfl | (simp only [e_0, e_1, e_2]; try rfl)⟩, by rw [ht]; exact hP9, hD9, hS.F ht⟩) hS.2.2 dR_set_70
          · refine lv_aload_n hx hb dR_set_48 rfl (lv_at hl 0 rfl) ?_
            refine lv_iload_n hx hb dR_set_49 rfl (lv_at hl 2 rfl) ?_
            refine lv_i2l hx hb dR_set_50 rfl ?_
            refine va_put (D := (dC, dI)) (ci := 3) (v := .long pct.toInt64) (ty := .long) (C := xR_R) (T := xF_R) (N := 20) hx hb hts xi_R xt_R xt_R_ok xn_R hown hK hP hD hS 0 rfl rfl 8 (by decide) (hts _ xk_654) (fun _ h9 => h9) rfl (by decide +kernel) rfl rfl (Nat.le_of_ble_eq_true rfl) dR_set_51 (fun H locs hP hD hS => ?_)
            have hP : va_P (dC, dI) classes [(h0, .inr (3, [.int 0, .ref ta, .int zs, .int po, .int fa, .ref da, .ref ra, .ref la, .long pct.toInt64, .long le, .int pk, .int pm, .int co, .ref pa, .int pl, .ref xa, .ref ya, .int mb, .ref ea, .ref wa]))] H := hP
            have hD : va_D A [(h0, .inr (3, [.int 0, .ref ta, .int zs, .int po, .int fa, .ref da, .ref ra, .ref la, .long pct.toInt64, .long le, .int pk, .int pm, .int co, .ref pa, .int pl, .ref xa, .ref ya, .int mb, .ref ea, .ref wa]))] := hD
            refine lv_goto (tgt := 70) hx hb dR_set_54 (by decide) ?_
            have e_0 : gR_set_0 we le what pct = (0 : Int32) := (if_neg c_1).trans ((if_pos c_4).trans ((if_pos c_5).trans ((if_pos c_9).trans (rfl))))
            have e_1 : gR_set_8 we le what pct = pct.toInt64 := (if_neg c_1).trans ((if_pos c_4).trans ((if_pos c_5).trans ((if_pos c_9).trans (rfl))))
            have e_2 : gR_set_9 we le what pct = le := (if_neg c_1).trans ((if_pos c_4).trans ((if_pos c_5).trans ((if_pos c_9).trans (rfl))))
            have hP9 := hP.sub (ws' := [(h0, .inr (3, [.int 0, .ref ta, .int zs, .int po, .int fa, .ref da, .ref ra, .ref la, .long pct.toInt64, .long le, .int pk, .int pm, .int co, .ref pa, .int pl, .ref xa, .ref ya, .int mb, .ref ea, .ref wa]))]) [0] rfl
            have hD9 := hD.sub (ws' := [(h0, .inr (3, [.int 0, .ref ta, .int zs, .int po, .int fa, .ref da, .ref ra, .ref la, .long pct.toInt64, .long le, .int pk, .int pm, .int co, .ref pa, .int pl, .ref xa, .ref ya, .int mb, .ref ea, .ref wa]))]) [0] (by decide) rfl
            exact W.vret hx hb hr (fun t ht hW => ⟨_, _, rfl, ⟨by first | rfl | (simp only [e_0, e_1, e_2]; try rfl), by first | rfl | (simp only [e_0, e_1, e_2]; try rfl)⟩, by rw [ht]; exact hP9, hD9, hS.F ht⟩) hS.2.2 dR_set_70
    · refine lv_iconst (v := 1) hx hb dR_set_10 (by decide) ?_
      refine lv_goto (tgt := 34) hx hb dR_set_11 (by decide) ?_
      refine va_put (D := (dC, dI)) (ci := 3) (v := .int 1) (ty := .int) (C := xR_R) (T := xF_R) (N := 20) hx hb hts xi_R xt_R xt_R_ok xn_R hown hK hP hD hS 0 rfl rfl 0 (by decide) (hts _ xk_646) (fun _ h9 => h9) rfl (by decide +kernel) rfl rfl (Nat.le_of_ble_eq_true rfl) dR_set_34 (fun H locs hP hD hS => ?_)
      have hP : va_P (dC, dI) classes [(h0, .inr (3, [.int 1, .ref ta, .int zs, .int po, .int fa, .ref da, .ref ra, .ref la, .long we, .long le, .int pk, .int pm, .int co, .ref pa, .int pl, .ref xa, .ref ya, .int mb, .ref ea, .ref wa]))] H := hP
      have hD : va_D A [(h0, .inr (3, [.int 1, .ref ta, .int zs, .int po, .int fa, .ref da, .ref ra, .ref la, .long we, .long le, .int pk, .int pm, .int co, .ref pa, .int pl, .ref xa, .ref ya, .int mb, .ref ea, .ref wa]))] := hD
      refine lv_aload_n hx hb dR_set_37 rfl (lv_at hl 0 rfl) ?_
      refine va_get (D := (dC, dI)) (ci := 3) (v := .int 1) (C := xR_R) (T := xF_R) (N := 20) hx hb hts xi_R hown hK hP 0 rfl rfl 0 (by decide) (hts _ xk_646) (fun _ h9 => h9) rfl dR_set_38 ?_
      refine lv_if_ne (tgt := 57) hx hb dR_set_41 (by decide) (fun c_11 => ?_) (fun c_11 => ?_)
      · refine lv_aload_n hx hb dR_set_57 rfl (lv_at hl 0 rfl) ?_
        refine va_get (D := (dC, dI)) (ci := 3) (v := .int 1) (C := xR_R) (T := xF_R) (N := 20) hx hb hts xi_R hown hK hP 0 rfl rfl 0 (by decide) (hts _ xk_646) (fun _ h9 => h9) rfl dR_set_58 ?_
        refine lv_if_ne (tgt := 70) hx hb dR_set_61 (by decide) (fun c_12 => ?_) (fun c_12 => ?_)
        · have e_0 : gR_set_0 we le what pct = (1 : Int32) := (if_neg c_1).trans ((if_neg c_4).trans (rfl))
          have e_1 : gR_set_8 we le what pct = we := (if_neg c_1).trans ((if_neg c_4).trans (rfl))
          have e_2 : gR_set_9 we le what pct = le := (if_neg c_1).trans ((if_neg c_4).trans (rfl))
          have hP9 := hP.sub (ws' := [(h0, .inr (3, [.int 1, .ref ta, .int zs, .int po, .int fa, .ref da, .ref ra, .ref la, .long we, .long le, .int pk, .int pm, .int co, .ref pa, .int pl, .ref xa, .ref ya, .int mb, .ref ea, .ref wa]))]) [0] rfl
          have hD9 := hD.sub (ws' := [(h0, .inr (3, [.int 1, .ref ta, .int zs, .int po, .int fa, .ref da, .ref ra, .ref la, .long we, .long le, .int pk, .int pm, .int co, .ref pa, .int pl, .ref xa, .ref ya, .int mb, .ref ea, .ref wa]))]) [0] (by decide) rfl
          exact W.vret hx hb hr (fun t ht hW => ⟨_, _, rfl, ⟨by first | rfl | (simp only [e_0, e_1, e_2]; try rfl), by first | rfl | (simp only [e_0, e_1, e_2]; try rfl)⟩, by rw [ht]; exact hP9, hD9, hS.F ht⟩) hS.2.2 dR_set_70
        · exact absurd c_12 (by decide)
      · exact absurd c_11 (by decide)

def gR_together (le : Int64) (n : Int32) (one : Int64) : Int64 := if (fR_isIn n.toInt64 (0) (1000)) = true then (if (fR_isIn one (0) (1000000000000)) = true then (fR_all le n.toInt64 one) else ((0))) else ((0))
def gR_together_0 (le : Int64) (n : Int32) (one : Int64) : Int32 := if (fR_isIn n.toInt64 (0) (1000)) = true then (if (fR_isIn one (0) (1000000000000)) = true then ((0)) else ((1))) else ((1))
set_option maxHeartbeats 4000000 in
set_option maxRecDepth 100000 in
theorem cR_together (l : Launch) {s0 : State} {dC : Nat → ClassId} {dI : Nat → Nat → Nat} {cI cC cL cO : ClassId} (E : xb_Env l s0 dC dI (xtys cI cC cL cO)) (sz : Nat) (h0 : Nat) (th : Int32) (ta : Nat) (zs : Int32) (po : Int32) (fa : Int32) (da : Nat) (ra : Nat) (la : Nat) (we : Int64) (le : Int64) (pk : Int32) (pm : Int32) (co : Int32) (pa : Nat) (pl : Int32) (xa : Nat) (ya : Nat) (mb : Int32) (ea : Nat) (wa : Nat) (n : Int32) (one : Int64) : Met l yR_together [.code yR_together bR_together 4 (some (.long))] ({ frames := 1, cells := 0, slots := 0, locals := 26 }) (va_Pc [.ref h0, .int n, .long one] (fun U => xb_At s0 U ∧ U.heap.size = sz ∧ va_P (dC, dI) classes [(h0, .inr (3, [.int th, .ref ta, .int zs, .int po, .int fa, .ref da, .ref ra, .ref la, .long we, .long le, .int pk, .int pm, .int co, .ref pa, .int pl, .ref xa, .ref ya, .int mb, .ref ea, .ref wa]))] U.heap ∧ va_D (fun q => s0.heap.size ≤ q) [(h0, .inr (3, [.int th, .ref ta, .int zs, .int po, .int fa, .ref da, .ref ra, .ref la, .long we, .long le, .int pk, .int pm, .int co, .ref pa, .int pl, .ref xa, .ref ya, .int mb, .ref ea, .ref wa]))])) (xb_W (dC, dI) (fun v9 w9 => v9 = some (.long (gR_together le n one)) ∧ w9 = [(h0, .inr (3, [.int (gR_together_0 le n one), .ref ta, .int zs, .int po, .int fa, .ref da, .ref ra, .ref la, .long we, .long le, .int pk, .int pm, .int co, .ref pa, .int pl, .ref xa, .ref ya, .int mb, .ref ea, .ref wa]))]) (va_A [(h0, .inr (3, [.int th, .ref ta, .int zs, .int po, .int fa, .ref da, .ref ra, .ref la, .long we, .long le, .int pk, .int pm, .int co, .ref pa, .int pl, .ref xa, .ref ya, .int mb, .ref ea, .ref wa]))] sz)) 0 0 (va_A [(h0, .inr (3, [.int th, .ref ta, .int zs, .int po, .int fa, .ref da, .ref ra, .ref la, .long we, .long le, .int pk, .int pm, .int co, .ref pa, .int pl, .ref xa, .ref ya, .int mb, .ref ea, .ref wa]))] sz) := by
  refine Met.ofW (cc := bR_together) (maxL := 4) (ret := (some (.long))) (by decide) rfl ?_
  intro p e s m args below meth c s₁ B hml hv
  obtain ⟨rfl, hAt, hsz, hP, hD0⟩ := hv
  have hx := B.exec
  have hb := B.bytes
  have hr := B.returns
  have hts := xb_hts E hAt ([.ref h0, .int n, .long one] : List Value).toArray
  have hown : s.vm.findClass "NailRulesModel" = some m.cls := findClass_of_methodNamed B.named
  have hlocks := B.notSynchronized
  have hK := xb_K E hAt
  subst hsz
  have hA0 := xb_A0 hAt hD0
  have hD := hD0.self (sz := s.heap.size)
  generalize hAe : va_A [(h0, .inr (3, [.int th, .ref ta, .int zs, .int po, .int fa, .ref da, .ref ra, .ref la, .long we, .long le, .int pk, .int pm, .int co, .ref pa, .int pl, .ref xa, .ref ya, .int mb, .ref ea, .ref wa]))] s.heap.size = A at hD hA0 ⊢
  have hA : ∀ q : Nat, s.heap.size ≤ q → A q := fun q h => by rw [← hAe]; exact Or.inr h
  have hS : va_S A s.heap s.heap [] := va_S.rf
  have hl := lv_entry ([.ref h0, .int n, .long one]) (n := 4) (Nat.le_of_ble_eq_true rfl)
  rw [lg_entry_eq]
  generalize (lg_sl ([.ref h0, .int n, .long one]) ++ List.replicate (4 - (lg_sl ([.ref h0, .int n, .long one])).length) Slot.unset).toArray = ls at hl ⊢
  have hl : lv_has ls 4 [(0, .ref h0), (1, .int n), (2, .long one)] := hl
  refine lv_aload_n hx hb dR_together_0 rfl (lv_at hl 0 rfl) ?_
  refine lv_iload_n hx hb dR_together_1 rfl (lv_at hl 1 rfl) ?_
  refine lv_i2l hx hb dR_together_2 rfl ?_
  refine lv_lconst (v := 0) hx hb dR_together_3 (by decide) ?_
  refine lv_ldc2 (v := 1000) hx hb hown (hts _ xk_765) dR_together_4 ?_
  refine xb_rd (W.runS (As := [.long n.toInt64, .long 0, .long 1000]) (rest := [.ref h0]) ⟨hx, hb, hml, hown, hts⟩ (cR_isIn l E n.toInt64 0 1000) (cwS 3 hts (xb_gi (List.forall_mem_cons.mpr ⟨xk_754, List.forall_mem_cons.mpr ⟨xk_755, List.forall_mem_cons.mpr ⟨xk_45, List.forall_mem_cons.mpr ⟨xk_756, fun _ h => absurd h List.not_mem_nil⟩⟩⟩⟩)) rfl rfl rfl (by decide +kernel) ⟨Nat.le_of_ble_eq_true rfl, Nat.le_of_ble_eq_true rfl⟩) ⟨fun _ _ _ _ q => q, fun U hU hW => ⟨rfl, xb_atS hAt hS hA0 hU hW, fun k q h => by simp at h⟩⟩ rfl rfl hl.1 rfl (lv_room (Nat.le_of_ble_eq_true rfl)) dR_together_7 ⟨Nat.zero_le _, Nat.zero_le _⟩) ?_
  refine lv_if_eq (tgt := 28) hx hb dR_together_10 (by decide) (fun c_1 => ?_) (fun c_1 => ?_)
  · have c_1 := xb_bi_f.mp c_1
    refine lv_iconst (v := 1) hx hb dR_together_28 (by decide) ?_
    refine va_put (D := (dC, dI)) (ci := 3) (v := .int 1) (ty := .int) (C := xR_R) (T := xF_R) (N := 20) hx hb hts xi_R xt_R xt_R_ok xn_R hown hK hP hD hS 0 rfl rfl 0 (by decide) (hts _ xk_646) (fun _ h9 => h9) rfl (by decide +kernel) rfl rfl (Nat.le_of_ble_eq_true rfl) dR_together_29 (fun H locs hP hD hS => ?_)
    have hP : va_P (dC, dI) classes [(h0, .inr (3, [.int 1, .ref ta, .int zs, .int po, .int fa, .ref da, .ref ra, .ref la, .long we, .long le, .int pk, .int pm, .int co, .ref pa, .int pl, .ref xa, .ref ya, .int mb, .ref ea, .ref wa]))] H := hP
    have hD : va_D A [(h0, .inr (3, [.int 1, .ref ta, .int zs, .int po, .int fa, .ref da, .ref ra, .ref la, .long we, .long le, .int pk, .int pm, .int co, .ref pa, .int pl, .ref xa, .ref ya, .int mb, .ref ea, .ref wa]))] := hD
    refine lv_aload_n hx hb dR_together_32 rfl (lv_at hl 0 rfl) ?_
    refine va_get (D := (dC, dI)) (ci := 3) (v := .int 1) (C := xR_R) (T := xF_R) (N := 20) hx hb hts xi_R hown hK hP 0 rfl rfl 0 (by decide) (hts _ xk_646) (fun _ h9 => h9) rfl dR_together_33 ?_
    refine lv_if_le (tgt := 43) hx hb dR_together_36 (by decide) (fun c_2 => ?_) (fun c_2 => ?_)
    · exact absurd c_2 (by decide)
    · refine lv_lconst (v := 0) hx hb dR_together_39 (by decide) ?_
      refine lv_goto (tgt := 50) hx hb dR_together_40 (by decide) ?_
      have e_0 : gR_together le n one = (0 : Int64) := (if_neg c_1).trans (rfl)
      have e_1 : gR_together_0 le n one = (1 : Int32) := (if_neg c_1).trans (rfl)
      have hP9 := hP.sub (ws' := [(h0, .inr (3, [.int 1, .ref ta, .int zs, .int po, .int fa, .ref da, .ref ra, .ref la, .long we, .long le, .int pk, .int pm, .int co, .ref pa, .int pl, .ref xa, .ref ya, .int mb, .ref ea, .ref wa]))]) [0] rfl
      have hD9 := hD.sub (ws' := [(h0, .inr (3, [.int 1, .ref ta, .int zs, .int po, .int fa, .ref da, .ref ra, .ref la, .long we, .long le, .int pk, .int pm, .int co, .ref pa, .int pl, .ref xa, .ref ya, .int mb, .ref ea, .ref wa]))]) [0] (by decide) rfl
      exact W.lret (v := 0) hx hb hr (fun t ht hW => ⟨_, _, rfl, ⟨by first | rfl | (simp only [e_0, e_1]; try rfl), by first | rfl | (simp only [e_0, e_1]; try rfl)⟩, by rw [ht]; exact hP9, hD9, hS.F ht⟩) hS.2.2 dR_together_50
  · have c_1 := xb_bi_t.mp c_1
    refine lv_lload_n hx hb dR_together_13 rfl (lv_at hl 2 rfl) ?_
    refine lv_lconst (v := 0) hx hb dR_together_14 (by decide) ?_
    refine lv_ldc2 (v := 1000000000000) hx hb hown (hts _ xk_777) dR_together_15 ?_
    refine xb_rd (W.runS (As := [.long one, .long 0, .long 1000000000000]) (rest := [.ref h0]) ⟨hx, hb, hml, hown, hts⟩ (cR_isIn l E one 0 1000000000000) (cwS 3 hts (xb_gi (List.forall_mem_cons.mpr ⟨xk_754, List.forall_mem_cons.mpr ⟨xk_755, List.forall_mem_cons.mpr ⟨xk_45, List.forall_mem_cons.mpr ⟨xk_756, fun _ h => absurd h List.not_mem_nil⟩⟩⟩⟩)) rfl rfl rfl (by decide +kernel) ⟨Nat.le_of_ble_eq_true rfl, Nat.le_of_ble_eq_true rfl⟩) ⟨fun _ _ _ _ q => q, fun U hU hW => ⟨rfl, xb_atS hAt hS hA0 hU hW, fun k q h => by simp at h⟩⟩ rfl rfl hl.1 rfl (lv_room (Nat.le_of_ble_eq_true rfl)) dR_together_18 ⟨Nat.zero_le _, Nat.zero_le _⟩) ?_
    refine lv_if_eq (tgt := 28) hx hb dR_together_21 (by decide) (fun c_3 => ?_) (fun c_3 => ?_)
    · have c_3 := xb_bi_f.mp c_3
      refine lv_iconst (v := 1) hx hb dR_together_28 (by decide) ?_
      refine va_put (D := (dC, dI)) (ci := 3) (v := .int 1) (ty := .int) (C := xR_R) (T := xF_R) (N := 20) hx hb hts xi_R xt_R xt_R_ok xn_R hown hK hP hD hS 0 rfl rfl 0 (by decide) (hts _ xk_646) (fun _ h9 => h9) rfl (by decide +kernel) rfl rfl (Nat.le_of_ble_eq_true rfl) dR_together_29 (fun H locs hP hD hS => ?_)
      have hP : va_P (dC, dI) classes [(h0, .inr (3, [.int 1, .ref ta, .int zs, .int po, .int fa, .ref da, .ref ra, .ref la, .long we, .long le, .int pk, .int pm, .int co, .ref pa, .int pl, .ref xa, .ref ya, .int mb, .ref ea, .ref wa]))] H := hP
      have hD : va_D A [(h0, .inr (3, [.int 1, .ref ta, .int zs, .int po, .int fa, .ref da, .ref ra, .ref la, .long we, .long le, .int pk, .int pm, .int co, .ref pa, .int pl, .ref xa, .ref ya, .int mb, .ref ea, .ref wa]))] := hD
      refine lv_aload_n hx hb dR_together_32 rfl (lv_at hl 0 rfl) ?_
      refine va_get (D := (dC, dI)) (ci := 3) (v := .int 1) (C := xR_R) (T := xF_R) (N := 20) hx hb hts xi_R hown hK hP 0 rfl rfl 0 (by decide) (hts _ xk_646) (fun _ h9 => h9) rfl dR_together_33 ?_
      refine lv_if_le (tgt := 43) hx hb dR_together_36 (by decide) (fun c_4 => ?_) (fun c_4 => ?_)
      · exact absurd c_4 (by decide)
      · refine lv_lconst (v := 0) hx hb dR_together_39 (by decide) ?_
        refine lv_goto (tgt := 50) hx hb dR_together_40 (by decide) ?_
        have e_0 : gR_together le n one = (0 : Int64) := (if_pos c_1).trans ((if_neg c_3).trans (rfl))
        have e_1 : gR_together_0 le n one = (1 : Int32) := (if_pos c_1).trans ((if_neg c_3).trans (rfl))
        have hP9 := hP.sub (ws' := [(h0, .inr (3, [.int 1, .ref ta, .int zs, .int po, .int fa, .ref da, .ref ra, .ref la, .long we, .long le, .int pk, .int pm, .int co, .ref pa, .int pl, .ref xa, .ref ya, .int mb, .ref ea, .ref wa]))]) [0] rfl
        have hD9 := hD.sub (ws' := [(h0, .inr (3, [.int 1, .ref ta, .int zs, .int po, .int fa, .ref da, .ref ra, .ref la, .long we, .long le, .int pk, .int pm, .int co, .ref pa, .int pl, .ref xa, .ref ya, .int mb, .ref ea, .ref wa]))]) [0] (by decide) rfl
        exact W.lret (v := 0) hx hb hr (fun t ht hW => ⟨_, _, rfl, ⟨by first | rfl | (simp only [e_0, e_1]; try rfl), by first | rfl | (simp only [e_0, e_1]; try rfl)⟩, by rw [ht]; exact hP9, hD9, hS.F ht⟩) hS.2.2 dR_together_50
    · have c_3 := xb_bi_t.mp c_3
      refine lv_iconst (v := 0) hx hb dR_together_24 (by decide) ?_
      refine lv_goto (tgt := 29) hx hb dR_together_25 (by decide) ?_
      refine va_put (D := (dC, dI)) (ci := 3) (v := .int 0) (ty := .int) (C := xR_R) (T := xF_R) (N := 20) hx hb hts xi_R xt_R xt_R_ok xn_R hown hK hP hD hS 0 rfl rfl 0 (by decide) (hts _ xk_646) (fun _ h9 => h9) rfl (by decide +kernel) rfl rfl (Nat.le_of_ble_eq_true rfl) dR_together_29 (fun H locs hP hD hS => ?_)
      have hP : va_P (dC, dI) classes [(h0, .inr (3, [.int 0, .ref ta, .int zs, .int po, .int fa, .ref da, .ref ra, .ref la, .long we, .long le, .int pk, .int pm, .int co, .ref pa, .int pl, .ref xa, .ref ya, .int mb, .ref ea, .ref wa]))] H := hP
      have hD : va_D A [(h0, .inr (3, [.int 0, .ref ta, .int zs, .int po, .int fa, .ref da, .ref ra, .ref la, .long we, .long le, .int pk, .int pm, .int co, .ref pa, .int pl, .ref xa, .ref ya, .int mb, .ref ea, .ref wa]))] := hD
      refine lv_aload_n hx hb dR_together_32 rfl (lv_at hl 0 rfl) ?_
      refine va_get (D := (dC, dI)) (ci := 3) (v := .int 0) (C := xR_R) (T := xF_R) (N := 20) hx hb hts xi_R hown hK hP 0 rfl rfl 0 (by decide) (hts _ xk_646) (fun _ h9 => h9) rfl dR_together_33 ?_
      refine lv_if_le (tgt := 43) hx hb dR_together_36 (by decide) (fun c_5 => ?_) (fun c_5 => ?_)
      · refine lv_aload_n hx hb dR_together_43 rfl (lv_at hl 0 rfl) ?_
        refine lv_iload_n hx hb dR_together_44 rfl (lv_at hl 1 rfl) ?_
        refine lv_i2l hx hb dR_together_45 rfl ?_
        refine lv_lload_n hx hb dR_together_46 rfl (lv_at hl 2 rfl) ?_
        refine xb_rd (W.runV (C := "NailRulesModel") (As := [.long n.toInt64, .long one]) (rest := []) ⟨hx, hb, hml, hown, hts⟩ (cR_all l E h0 ([.int 0, .ref ta, .int zs, .int po, .int fa, .ref da, .ref ra, .ref la, .long we, .long le, .int pk, .int pm, .int co, .ref pa, .int pl, .ref xa, .ref ya, .int mb, .ref ea, .ref wa]) le n.toInt64 one rfl) (cwV 2 hts (xb_gi (List.forall_mem_cons.mpr ⟨xk_778, List.forall_mem_cons.mpr ⟨xk_780, List.forall_mem_cons.mpr ⟨xk_35, List.forall_mem_cons.mpr ⟨xk_45, List.forall_mem_cons.mpr ⟨xk_781, fun _ h => absurd h List.not_mem_nil⟩⟩⟩⟩⟩)) rfl rfl rfl (by decide +kernel) ⟨Nat.le_of_ble_eq_true rfl, Nat.le_of_ble_eq_true rfl⟩) ⟨fun _ _ _ _ q => q, va_recv hK hP (ci := 3) (q0 := 0) rfl rfl, fun U hU hW => ⟨rfl, xb_atS hAt hS hA0 hU hW, by rw [hU]; exact hP.sub (ws' := [(h0, .inr (3, [.int 0, .ref ta, .int zs, .int po, .int fa, .ref da, .ref ra, .ref la, .long we, .long le, .int pk, .int pm, .int co, .ref pa, .int pl, .ref xa, .ref ya, .int mb, .ref ea, .ref wa]))]) [0] rfl⟩⟩ rfl rfl hl.1 rfl (lv_room (Nat.le_of_ble_eq_true rfl)) dR_together_47 ⟨Nat.zero_le _, Nat.zero_le _⟩) ?_
        have e_0 : gR_together le n one = (fR_all le n.toInt64 one) := (if_pos c_1).trans ((if_pos c_3).trans (rfl))
        have e_1 : gR_together_0 le n one = (0 : Int32) := (if_pos c_1).trans ((if_pos c_3).trans (rfl))
        have hP9 := hP.sub (ws' := [(h0, .inr (3, [.int 0, .ref ta, .int zs, .int po, .int fa, .ref da, .ref ra, .ref la, .long we, .long le, .int pk, .int pm, .int co, .ref pa, .int pl, .ref xa, .ref ya, .int mb, .ref ea, .ref wa]))]) [0] rfl
        have hD9 := hD.sub (ws' := [(h0, .inr (3, [.int 0, .ref ta, .int zs, .int po, .int fa, .ref da, .ref ra, .ref la, .long we, .long le, .int pk, .int pm, .int co, .ref pa, .int pl, .ref xa, .ref ya, .int mb, .ref ea, .ref wa]))]) [0] (by decide) rfl
        exact W.lret (v := (fR_all le n.toInt64 one)) hx hb hr (fun t ht hW => ⟨_, _, rfl, ⟨by first | rfl | (simp only [e_0, e_1]; try rfl), by first | rfl | (simp only [e_0, e_1]; try rfl)⟩, by rw [ht]; exact hP9, hD9, hS.F ht⟩) hS.2.2 dR_together_50
      · exact absurd c_5 (by decide)

def gR_place (xf : Nat → Int32) (yf : Nat → Int32) (pl : Int32) (x : Int32) (y : Int32) : Int32 := if (fR_isIn x.toInt64 (0) (100000)) = true then (if (fR_isIn y.toInt64 (0) (100000)) = true then (if pl = 32 then ((0)) else (pl + 1)) else ((0))) else ((0))
def gR_place_0 (xf : Nat → Int32) (yf : Nat → Int32) (pl : Int32) (x : Int32) (y : Int32) : Int32 := if (fR_isIn x.toInt64 (0) (100000)) = true then (if (fR_isIn y.toInt64 (0) (100000)) = true then (if pl = 32 then ((2)) else ((0))) else ((1))) else ((1))
def gR_place_14 (xf : Nat → Int32) (yf : Nat → Int32) (pl : Int32) (x : Int32) (y : Int32) : Int32 := if (fR_isIn x.toInt64 (0) (100000)) = true then (if (fR_isIn y.toInt64 (0) (100000)) = true then (if pl = 32 then (pl) else (pl + 1)) else (pl)) else (pl)
def gR_place_x (xf : Nat → Int32) (yf : Nat → Int32) (pl : Int32) (x : Int32) (y : Int32) : Nat → Int32 := if (fR_isIn x.toInt64 (0) (100000)) = true then (if (fR_isIn y.toInt64 (0) (100000)) = true then (if pl = 32 then (xf) else (upd xf pl.toNatClampNeg x)) else (xf)) else (xf)
def gR_place_y (xf : Nat → Int32) (yf : Nat → Int32) (pl : Int32) (x : Int32) (y : Int32) : Nat → Int32 := if (fR_isIn x.toInt64 (0) (100000)) = true then (if (fR_isIn y.toInt64 (0) (100000)) = true then (if pl = 32 then (yf) else (upd yf pl.toNatClampNeg y)) else (yf)) else (yf)
set_option maxHeartbeats 4000000 in
set_option maxRecDepth 100000 in
theorem cR_place (l : Launch) {s0 : State} {dC : Nat → ClassId} {dI : Nat → Nat → Nat} {cI cC cL cO : ClassId} (E : xb_Env l s0 dC dI (xtys cI cC cL cO)) (sz : Nat) (h0 : Nat) (xa : Nat) (ya : Nat) (th : Int32) (ta : Nat) (zs : Int32) (po : Int32) (fa : Int32) (da : Nat) (ra : Nat) (la : Nat) (we : Int64) (le : Int64) (pk : Int32) (pm : Int32) (co : Int32) (pa : Nat) (pl : Int32) (mb : Int32) (ea : Nat) (wa : Nat) (xf : Nat → Int32) (yf : Nat → Int32) (x : Int32) (y : Int32) (q0 : 0 ≤ pl) (q1 : pl ≤ 32) : Met l yR_place [.code yR_place bR_place 3 (some (.int))] ({ frames := 1, cells := 0, slots := 0, locals := 25 }) (va_Pc [.ref h0, .int x, .int y] (fun U => xb_At s0 U ∧ U.heap.size = sz ∧ va_P (dC, dI) classes [(h0, .inr (3, [.int th, .ref ta, .int zs, .int po, .int fa, .ref da, .ref ra, .ref la, .long we, .long le, .int pk, .int pm, .int co, .ref pa, .int pl, .ref xa, .ref ya, .int mb, .ref ea, .ref wa])), (xa, .inl (cI, 32, .inl xf)), (ya, .inl (cI, 32, .inl yf))] U.heap ∧ va_D (fun q => s0.heap.size ≤ q) [(h0, .inr (3, [.int th, .ref ta, .int zs, .int po, .int fa, .ref da, .ref ra, .ref la, .long we, .long le, .int pk, .int pm, .int co, .ref pa, .int pl, .ref xa, .ref ya, .int mb, .ref ea, .ref wa])), (xa, .inl (cI, 32, .inl xf)), (ya, .inl (cI, 32, .inl yf))])) (xb_W (dC, dI) (fun v9 w9 => v9 = some (.int (gR_place xf yf pl x y)) ∧ w9 = [(h0, .inr (3, [.int (gR_place_0 xf yf pl x y), .ref ta, .int zs, .int po, .int fa, .ref da, .ref ra, .ref la, .long we, .long le, .int pk, .int pm, .int co, .ref pa, .int (gR_place_14 xf yf pl x y), .ref xa, .ref ya, .int mb, .ref ea, .ref wa])), (xa, .inl (cI, 32, .inl (gR_place_x xf yf pl x y))), (ya, .inl (cI, 32, .inl (gR_place_y xf yf pl x y)))]) (va_A [(h0, .inr (3, [.int th, .ref ta, .int zs, .int po, .int fa, .ref da, .ref ra, .ref la, .long we, .long le, .int pk, .int pm, .int co, .ref pa, .int pl, .ref xa, .ref ya, .int mb, .ref ea, .ref wa])), (xa, .inl (cI, 32, .inl xf)), (ya, .inl (cI, 32, .inl yf))] sz)) 0 0 (va_A [(h0, .inr (3, [.int th, .ref ta, .int zs, .int po, .int fa, .ref da, .ref ra, .ref la, .long we, .long le, .int pk, .int pm, .int co, .ref pa, .int pl, .ref xa, .ref ya, .int mb, .ref ea, .ref wa])), (xa, .inl (cI, 32, .inl xf)), (ya, .inl (cI, 32, .inl yf))] sz) := by
  refine Met.ofW (cc := bR_place) (maxL := 3) (ret := (some (.int))) (by decide) rfl ?_
  intro p e s m args below meth c s₁ B hml hv
  obtain ⟨rfl, hAt, hsz, hP, hD0⟩ := hv
  have hx := B.exec
  have hb := B.bytes
  have hr := B.returns
  have hts := xb_hts E hAt ([.ref h0, .int x, .int y] : List Value).toArray
  have hown : s.vm.findClass "NailRulesModel" = some m.cls := findClass_of_methodNamed B.named
  have hlocks := B.notSynchronized
  have hK := xb_K E hAt
  subst hsz
  have hA0 := xb_A0 hAt hD0
  have hD := hD0.self (sz := s.heap.size)
  generalize hAe : va_A [(h0, .inr (3, [.int th, .ref ta, .int zs, .int po, .int fa, .ref da, .ref ra, .ref la, .long we, .long le, .int pk, .int pm, .int co, .ref pa, .int pl, .ref xa, .ref ya, .int mb, .ref ea, .ref wa])), (xa, .inl (cI, 32, .inl xf)), (ya, .inl (cI, 32, .inl yf))] s.heap.size = A at hD hA0 ⊢
  have hA : ∀ q : Nat, s.heap.size ≤ q → A q := fun q h => by rw [← hAe]; exact Or.inr h
  have hS : va_S A s.heap s.heap [] := va_S.rf
  have hl := lv_entry ([.ref h0, .int x, .int y]) (n := 3) (Nat.le_of_ble_eq_true rfl)
  rw [lg_entry_eq]
  generalize (lg_sl ([.ref h0, .int x, .int y]) ++ List.replicate (3 - (lg_sl ([.ref h0, .int x, .int y])).length) Slot.unset).toArray = ls at hl ⊢
  have hl : lv_has ls 3 [(0, .ref h0), (1, .int x), (2, .int y)] := hl
  refine lv_aload_n hx hb dR_place_0 rfl (lv_at hl 0 rfl) ?_
  refine lv_iload_n hx hb dR_place_1 rfl (lv_at hl 1 rfl) ?_
  refine lv_i2l hx hb dR_place_2 rfl ?_
  refine lv_lconst (v := 0) hx hb dR_place_3 (by decide) ?_
  refine lv_ldc2 (v := 100000) hx hb hown (hts _ xk_791) dR_place_4 ?_
  refine xb_rd (W.runS (As := [.long x.toInt64, .long 0, .long 100000]) (rest := [.ref h0]) ⟨hx, hb, hml, hown, hts⟩ (cR_isIn l E x.toInt64 0 100000) (cwS 3 hts (xb_gi (List.forall_mem_cons.mpr ⟨xk_754, List.forall_mem_cons.mpr ⟨xk_755, List.forall_mem_cons.mpr ⟨xk_45, List.forall_mem_cons.mpr ⟨xk_756, fun _ h => absurd h List.not_mem_nil⟩⟩⟩⟩)) rfl rfl rfl (by decide +kernel) ⟨Nat.le_of_ble_eq_true rfl, Nat.le_of_ble_eq_true rfl⟩) ⟨fun _ _ _ _ q => q, fun U hU hW => ⟨rfl, xb_atS hAt hS hA0 hU hW, fun k q h => by simp at h⟩⟩ rfl rfl hl.1 rfl (lv_room (Nat.le_of_ble_eq_true rfl)) dR_place_7 ⟨Nat.zero_le _, Nat.zero_le _⟩) ?_
  refine lv_if_eq (tgt := 25) hx hb dR_place_10 (by decide) (fun c_1 => ?_) (fun c_1 => ?_)
  · have c_1 := xb_bi_f.mp c_1
    refine lv_iconst (v := 1) hx hb dR_place_25 (by decide) ?_
    refine lv_goto (tgt := 43) hx hb dR_place_26 (by decide) ?_
    refine va_put (D := (dC, dI)) (ci := 3) (v := .int 1) (ty := .int) (C := xR_R) (T := xF_R) (N := 20) hx hb hts xi_R xt_R xt_R_ok xn_R hown hK hP hD hS 0 rfl rfl 0 (by decide) (hts _ xk_646) (fun _ h9 => h9) rfl (by decide +kernel) rfl rfl (Nat.le_of_ble_eq_true rfl) dR_place_43 (fun H locs hP hD hS => ?_)
    have hP : va_P (dC, dI) classes [(h0, .inr (3, [.int 1, .ref ta, .int zs, .int po, .int fa, .ref da, .ref ra, .ref la, .long we, .long le, .int pk, .int pm, .int co, .ref pa, .int pl, .ref xa, .ref ya, .int mb, .ref ea, .ref wa])), (xa, .inl (cI, 32, .inl xf)), (ya, .inl (cI, 32, .inl yf))] H := hP
    have hD : va_D A [(h0, .inr (3, [.int 1, .ref ta, .int zs, .int po, .int fa, .ref da, .ref ra, .ref la, .long we, .long le, .int pk, .int pm, .int co, .ref pa, .int pl, .ref xa, .ref ya, .int mb, .ref ea, .ref wa])), (xa, .inl (cI, 32, .inl xf)), (ya, .inl (cI, 32, .inl yf))] := hD
    refine lv_aload_n hx hb dR_place_46 rfl (lv_at hl 0 rfl) ?_
    refine va_get (D := (dC, dI)) (ci := 3) (v := .int 1) (C := xR_R) (T := xF_R) (N := 20) hx hb hts xi_R hown hK hP 0 rfl rfl 0 (by decide) (hts _ xk_646) (fun _ h9 => h9) rfl dR_place_47 ?_
    refine lv_if_le (tgt := 55) hx hb dR_place_50 (by decide) (fun c_2 => ?_) (fun c_2 => ?_)
    · exact absurd c_2 (by decide)
    · refine lv_iconst (v := 0) hx hb dR_place_53 (by decide) ?_
      have e_0 : gR_place xf yf pl x y = (0 : Int32) := (if_neg c_1).trans (rfl)
      have e_1 : gR_place_0 xf yf pl x y = (1 : Int32) := (if_neg c_1).trans (rfl)
      have e_2 : gR_place_14 xf yf pl x y = pl := (if_neg c_1).trans (rfl)
      have e_3 : gR_place_x xf yf pl x y = xf := (if_neg c_1).trans (rfl)
      have e_4 : gR_place_y xf yf pl x y = yf := (if_neg c_1).trans (rfl)
      have hP9 := hP.sub (ws' := [(h0, .inr (3, [.int 1, .ref ta, .int zs, .int po, .int fa, .ref da, .ref ra, .ref la, .long we, .long le, .int pk, .int pm, .int co, .ref pa, .int pl, .ref xa, .ref ya, .int mb, .ref ea, .ref wa])), (xa, .inl (cI, 32, .inl xf)), (ya, .inl (cI, 32, .inl yf))]) [0, 1, 2] rfl
      have hD9 := hD.sub (ws' := [(h0, .inr (3, [.int 1, .ref ta, .int zs, .int po, .int fa, .ref da, .ref ra, .ref la, .long we, .long le, .int pk, .int pm, .int co, .ref pa, .int pl, .ref xa, .ref ya, .int mb, .ref ea, .ref wa])), (xa, .inl (cI, 32, .inl xf)), (ya, .inl (cI, 32, .inl yf))]) [0, 1, 2] (by decide) rfl
      exact W.iret (v := 0) hx hb hr (fun t ht hW => ⟨_, _, rfl, ⟨by first | rfl | (simp only [e_0, e_1, e_2, e_3, e_4]; try rfl), by first | rfl | (simp only [e_0, e_1, e_2, e_3, e_4]; try rfl)⟩, by rw [ht]; exact hP9, hD9, hS.F ht⟩) hS.2.2 dR_place_54
  · have c_1 := xb_bi_t.mp c_1
    refine lv_iload_n hx hb dR_place_13 rfl (lv_at hl 2 rfl) ?_
    refine lv_i2l hx hb dR_place_14 rfl ?_
    refine lv_lconst (v := 0) hx hb dR_place_15 (by decide) ?_
    refine lv_ldc2 (v := 100000) hx hb hown (hts _ xk_791) dR_place_16 ?_
    refine xb_rd (W.runS (As := [.long y.toInt64, .long 0, .long 100000]) (rest := [.ref h0]) ⟨hx, hb, hml, hown, hts⟩ (cR_isIn l E y.toInt64 0 100000) (cwS 3 hts (xb_gi (List.forall_mem_cons.mpr ⟨xk_754, List.forall_mem_cons.mpr ⟨xk_755, List.forall_mem_cons.mpr ⟨xk_45, List.forall_mem_cons.mpr ⟨xk_756, fun _ h => absurd h List.not_mem_nil⟩⟩⟩⟩)) rfl rfl rfl (by decide +kernel) ⟨Nat.le_of_ble_eq_true rfl, Nat.le_of_ble_eq_true rfl⟩) ⟨fun _ _ _ _ q => q, fun U hU hW => ⟨rfl, xb_atS hAt hS hA0 hU hW, fun k q h => by simp at h⟩⟩ rfl rfl hl.1 rfl (lv_room (Nat.le_of_ble_eq_true rfl)) dR_place_19 ⟨Nat.zero_le _, Nat.zero_le _⟩) ?_
    refine lv_if_ne (tgt := 29) hx hb dR_place_22 (by decide) (fun c_3 => ?_) (fun c_3 => ?_)
    · have c_3 := xb_bi_t.mp c_3
      refine lv_aload_n hx hb dR_place_29 rfl (lv_at hl 0 rfl) ?_
      refine va_get (D := (dC, dI)) (ci := 3) (v := .int pl) (C := xR_R) (T := xF_R) (N := 20) hx hb hts xi_R hown hK hP 0 rfl rfl 14 (by decide) (hts _ xk_660) (fun _ h9 => h9) rfl dR_place_30 ?_
      refine lv_bipush (v := 32) hx hb dR_place_33 (by decide) ?_
      refine lv_icmp_ne (tgt := 42) hx hb dR_place_35 (by decide) (fun c_4 => ?_) (fun c_4 => ?_)
      · refine lv_iconst (v := 0) hx hb dR_place_42 (by decide) ?_
        refine va_put (D := (dC, dI)) (ci := 3) (v := .int 0) (ty := .int) (C := xR_R) (T := xF_R) (N := 20) hx hb hts xi_R xt_R xt_R_ok xn_R hown hK hP hD hS 0 rfl rfl 0 (by decide) (hts _ xk_646) (fun _ h9 => h9) rfl (by decide +kernel) rfl rfl (Nat.le_of_ble_eq_true rfl) dR_place_43 (fun H locs hP hD hS => ?_)
        have hP : va_P (dC, dI) classes [(h0, .inr (3, [.int 0, .ref ta, .int zs, .int po, .int fa, .ref da, .ref ra, .ref la, .long we, .long le, .int pk, .int pm, .int co, .ref pa, .int pl, .ref xa, .ref ya, .int mb, .ref ea, .ref wa])), (xa, .inl (cI, 32, .inl xf)), (ya, .inl (cI, 32, .inl yf))] H := hP
        have hD : va_D A [(h0, .inr (3, [.int 0, .ref ta, .int zs, .int po, .int fa, .ref da, .ref ra, .ref la, .long we, .long le, .int pk, .int pm, .int co, .ref pa, .int pl, .ref xa, .ref ya, .int mb, .ref ea, .ref wa])), (xa, .inl (cI, 32, .inl xf)), (ya, .inl (cI, 32, .inl yf))] := hD
        refine lv_aload_n hx hb dR_place_46 rfl (lv_at hl 0 rfl) ?_
        refine va_get (D := (dC, dI)) (ci := 3) (v := .int 0) (C := xR_R) (T := xF_R) (N := 20) hx hb hts xi_R hown hK hP 0 rfl rfl 0 (by decide) (hts _ xk_646) (fun _ h9 => h9) rfl dR_place_47 ?_
        refine lv_if_le (tgt := 55) hx hb dR_place_50 (by decide) (fun c_5 => ?_) (fun c_5 => ?_)
        · refine lv_aload_n hx hb dR_place_55 rfl (lv_at hl 0 rfl) ?_
          refine va_get (D := (dC, dI)) (ci := 3) (v := .ref xa) (C := xR_R) (T := xF_R) (N := 20) hx hb hts xi_R hown hK hP 0 rfl rfl 15 (by decide) (hts _ xk_661) (fun _ h9 => h9) rfl dR_place_56 ?_
          refine lv_aload_n hx hb dR_place_59 rfl (lv_at hl 0 rfl) ?_
          refine va_get (D := (dC, dI)) (ci := 3) (v := .int pl) (C := xR_R) (T := xF_R) (N := 20) hx hb hts xi_R hown hK hP 0 rfl rfl 14 (by decide) (hts _ xk_660) (fun _ h9 => h9) rfl dR_place_60 ?_
          refine lv_iload_n hx hb dR_place_63 rfl (lv_at hl 1 rfl) ?_
          have o_6 : vp_in pl 32 := by exact xp_ne (by decide) q0 q1 (by assumption)
          refine va_iast hx hb hK hP hD hS 1 0 rfl rfl o_6 dR_place_64 (fun H locs hP hD hS => ?_)
          have hP : va_P (dC, dI) classes [(h0, .inr (3, [.int 0, .ref ta, .int zs, .int po, .int fa, .ref da, .ref ra, .ref la, .long we, .long le, .int pk, .int pm, .int co, .ref pa, .int pl, .ref xa, .ref ya, .int mb, .ref ea, .ref wa])), (xa, .inl (cI, 32, .inl (upd xf pl.toNatClampNeg x))), (ya, .inl (cI, 32, .inl yf))] H := hP
          have hD : va_D A [(h0, .inr (3, [.int 0, .ref ta, .int zs, .int po, .int fa, .ref da, .ref ra, .ref la, .long we, .long le, .int pk, .int pm, .int co, .ref pa, .int pl, .ref xa, .ref ya, .int mb, .ref ea, .ref wa])), (xa, .inl (cI, 32, .inl (upd xf pl.toNatClampNeg x))), (ya, .inl (cI, 32, .inl yf))] := hD
          refine lv_aload_n hx hb dR_place_65 rfl (lv_at hl 0 rfl) ?_
          refine va_get (D := (dC, dI)) (ci := 3) (v := .ref ya) (C := xR_R) (T := xF_R) (N := 20) hx hb hts xi_R hown hK hP 0 rfl rfl 16 (by decide) (hts _ xk_662) (fun _ h9 => h9) rfl dR_place_66 ?_
          refine lv_aload_n hx hb dR_place_69 rfl (lv_at hl 0 rfl) ?_
          refine va_get (D := (dC, dI)) (ci := 3) (v := .int pl) (C := xR_R) (T := xF_R) (N := 20) hx hb hts xi_R hown hK hP 0 rfl rfl 14 (by decide) (hts _ xk_660) (fun _ h9 => h9) rfl dR_place_70 ?_
          refine lv_iload_n hx hb dR_place_73 rfl (lv_at hl 2 rfl) ?_
          have o_7 : vp_in pl 32 := by exact xp_ne (by decide) q0 q1 (by assumption)
          refine va_iast hx hb hK hP hD hS 2 0 rfl rfl o_7 dR_place_74 (fun H locs hP hD hS => ?_)
          have hP : va_P (dC, dI) classes [(h0, .inr (3, [.int 0, .ref ta, .int zs, .int po, .int fa, .ref da, .ref ra, .ref la, .long we, .long le, .int pk, .int pm, .int co, .ref pa, .int pl, .ref xa, .ref ya, .int mb, .ref ea, .ref wa])), (xa, .inl (cI, 32, .inl (upd xf pl.toNatClampNeg x))), (ya, .inl (cI, 32, .inl (upd yf pl.toNatClampNeg y)))] H := hP
          have hD : va_D A [(h0, .inr (3, [.int 0, .ref ta, .int zs, .int po, .int fa, .ref da, .ref ra, .ref la, .long we, .long le, .int pk, .int pm, .int co, .ref pa, .int pl, .ref xa, .ref ya, .int mb, .ref ea, .ref wa])), (xa, .inl (cI, 32, .inl (upd xf pl.toNatClampNeg x))), (ya, .inl (cI, 32, .inl (upd yf pl.toNatClampNeg y)))] := hD
          refine lv_aload_n hx hb dR_place_75 rfl (lv_at hl 0 rfl) ?_
          refine lv_dup hx hb dR_place_76 rfl ?_
          refine va_get (D := (dC, dI)) (ci := 3) (v := .int pl) (C := xR_R) (T := xF_R) (N := 20) hx hb hts xi_R hown hK hP 0 rfl rfl 14 (by decide) (hts _ xk_660) (fun _ h9 => h9) rfl dR_place_77 ?_
          refine lv_iconst (v := 1) hx hb dR_place_80 (by decide) ?_
          refine lv_iadd hx hb dR_place_81 ?_
          refine va_put (D := (dC, dI)) (ci := 3) (v := .int (pl + 1)) (ty := .int) (C := xR_R) (T := xF_R) (N := 20) hx hb hts xi_R xt_R xt_R_ok xn_R hown hK hP hD hS 0 rfl rfl 14 (by decide) (hts _ xk_660) (fun _ h9 => h9) rfl (by decide +kernel) rfl rfl (Nat.le_of_ble_eq_true rfl) dR_place_82 (fun H locs hP hD hS => ?_)
          have hP : va_P (dC, dI) classes [(h0, .inr (3, [.int 0, .ref ta, .int zs, .int po, .int fa, .ref da, .ref ra, .ref la, .long we, .long le, .int pk, .int pm, .int co, .ref pa, .int (pl + 1), .ref xa, .ref ya, .int mb, .ref ea, .ref wa])), (xa, .inl (cI, 32, .inl (upd xf pl.toNatClampNeg x))), (ya, .inl (cI, 32, .inl (upd yf pl.toNatClampNeg y)))] H := hP
          have hD : va_D A [(h0, .inr (3, [.int 0, .ref ta, .int zs, .int po, .int fa, .ref da, .ref ra, .ref la, .long we, .long le, .int pk, .int pm, .int co, .ref pa, .int (pl + 1), .ref xa, .ref ya, .int mb, .ref ea, .ref wa])), (xa, .inl (cI, 32, .inl (upd xf pl.toNatClampNeg x))), (ya, .inl (cI, 32, .inl (upd yf pl.toNatClampNeg y)))] := hD
          refine lv_aload_n hx hb dR_place_85 rfl (lv_at hl 0 rfl) ?_
          refine va_get (D := (dC, dI)) (ci := 3) (v := .int (pl + 1)) (C := xR_R) (T := xF_R) (N := 20) hx hb hts xi_R hown hK hP 0 rfl rfl 14 (by decide) (hts _ xk_660) (fun _ h9 => h9) rfl dR_place_86 ?_
          have e_0 : gR_place xf yf pl x y = (pl + 1) := (if_pos c_1).trans ((if_pos c_3).trans ((if_neg c_4).trans (rfl)))
          have e_1 : gR_place_0 xf yf pl x y = (0 : Int32) := (if_pos c_1).trans ((if_pos c_3).trans ((if_neg c_4).trans (rfl)))
          have e_2 : gR_place_14 xf yf pl x y = (pl + 1) := (if_pos c_1).trans ((if_pos c_3).trans ((if_neg c_4).trans (rfl)))
          have e_3 : gR_place_x xf yf pl x y = (upd xf pl.toNatClampNeg x) := (if_pos c_1).trans ((if_pos c_3).trans ((if_neg c_4).trans (rfl)))
          have e_4 : gR_place_y xf yf pl x y = (upd yf pl.toNatClampNeg y) := (if_pos c_1).trans ((if_pos c_3).trans ((if_neg c_4).trans (rfl)))
          have hP9 := hP.sub (ws' := [(h0, .inr (3, [.int 0, .ref ta, .int zs, .int po, .int fa, .ref da, .ref ra, .ref la, .long we, .long le, .int pk, .int pm, .int co, .ref pa, .int (pl + 1), .ref xa, .ref ya, .int mb, .ref ea, .ref wa])), (xa, .inl (cI, 32, .inl (upd xf pl.toNatClampNeg x))), (ya, .inl (cI, 32, .inl (upd yf pl.toNatClampNeg y)))]) [0, 1, 2] rfl
          have hD9 := hD.sub (ws' := [(h0, .inr (3, [.int 0, .ref ta, .int zs, .int po, .int fa, .ref da, .ref ra, .ref la, .long we, .long le, .int pk, .int pm, .int co, .ref pa, .int (pl + 1), .ref xa, .ref ya, .int mb, .ref ea, .ref wa])), (xa, .inl (cI, 32, .inl (upd xf pl.toNatClampNeg x))), (ya, .inl (cI, 32, .inl (upd yf pl.toNatClampNeg y)))]) [0, 1, 2] (by decide) rfl
          exact W.iret (v := (pl + 1)) hx hb hr (fun t ht hW => ⟨_, _, rfl, ⟨by first | rfl | (simp only [e_0, e_1, e_2, e_3, e_4]; try rfl), by first | rfl | (simp only [e_0, e_1, e_2, e_3, e_4]; try rfl)⟩, by rw [ht]; exact hP9, hD9, hS.F ht⟩) hS.2.2 dR_place_89
        · exact absurd c_5 (by decide)
      · refine lv_iconst (v := 2) hx hb dR_place_38 (by decide) ?_
        refine lv_goto (tgt := 43) hx hb dR_place_39 (by decide) ?_
        refine va_put (D := (dC, dI)) (ci := 3) (v := .int 2) (ty := .int) (C := xR_R) (T := xF_R) (N := 20) hx hb hts xi_R xt_R xt_R_ok xn_R hown hK hP hD hS 0 rfl rfl 0 (by decide) (hts _ xk_646) (fun _ h9 => h9) rfl (by decide +kernel) rfl rfl (Nat.le_of_ble_eq_true rfl) dR_place_43 (fun H locs hP hD hS => ?_)
        have hP : va_P (dC, dI) classes [(h0, .inr (3, [.int 2, .ref ta, .int zs, .int po, .int fa, .ref da, .ref ra, .ref la, .long we, .long le, .int pk, .int pm, .int co, .ref pa, .int pl, .ref xa, .ref ya, .int mb, .ref ea, .ref wa])), (xa, .inl (cI, 32, .inl xf)), (ya, .inl (cI, 32, .inl yf))] H := hP
        have hD : va_D A [(h0, .inr (3, [.int 2, .ref ta, .int zs, .int po, .int fa, .ref da, .ref ra, .ref la, .long we, .long le, .int pk, .int pm, .int co, .ref pa, .int pl, .ref xa, .ref ya, .int mb, .ref ea, .ref wa])), (xa, .inl (cI, 32, .inl xf)), (ya, .inl (cI, 32, .inl yf))] := hD
        refine lv_aload_n hx hb dR_place_46 rfl (lv_at hl 0 rfl) ?_
        refine va_get (D := (dC, dI)) (ci := 3) (v := .int 2) (C := xR_R) (T := xF_R) (N := 20) hx hb hts xi_R hown hK hP 0 rfl rfl 0 (by decide) (hts _ xk_646) (fun _ h9 => h9) rfl dR_place_47 ?_
        refine lv_if_le (tgt := 55) hx hb dR_place_50 (by decide) (fun c_8 => ?_) (fun c_8 => ?_)
        · exact absurd c_8 (by decide)
        · refine lv_iconst (v := 0) hx hb dR_place_53 (by decide) ?_
          have e_0 : gR_place xf yf pl x y = (0 : Int32) := (if_pos c_1).trans ((if_pos c_3).trans ((if_pos c_4).trans (rfl)))
          have e_1 : gR_place_0 xf yf pl x y = (2 : Int32) := (if_pos c_1).trans ((if_pos c_3).trans ((if_pos c_4).trans (rfl)))
          have e_2 : gR_place_14 xf yf pl x y = pl := (if_pos c_1).trans ((if_pos c_3).trans ((if_pos c_4).trans (rfl)))
          have e_3 : gR_place_x xf yf pl x y = xf := (if_pos c_1).trans ((if_pos c_3).trans ((if_pos c_4).trans (rfl)))
          have e_4 : gR_place_y xf yf pl x y = yf := (if_pos c_1).trans ((if_pos c_3).trans ((if_pos c_4).trans (rfl)))
          have hP9 := hP.sub (ws' := [(h0, .inr (3, [.int 2, .ref ta, .int zs, .int po, .int fa, .ref da, .ref ra, .ref la, .long we, .long le, .int pk, .int pm, .int co, .ref pa, .int pl, .ref xa, .ref ya, .int mb, .ref ea, .ref wa])), (xa, .inl (cI, 32, .inl xf)), (ya, .inl (cI, 32, .inl yf))]) [0, 1, 2] rfl
          have hD9 := hD.sub (ws' := [(h0, .inr (3, [.int 2, .ref ta, .int zs, .int po, .int fa, .ref da, .ref ra, .ref la, .long we, .long le, .int pk, .int pm, .int co, .ref pa, .int pl, .ref xa, .ref ya, .int mb, .ref ea, .ref wa])), (xa, .inl (cI, 32, .inl xf)), (ya, .inl (cI, 32, .inl yf))]) [0, 1, 2] (by decide) rfl
          exact W.iret (v := 0) hx hb hr (fun t ht hW => ⟨_, _, rfl, ⟨by first | rfl | (simp only [e_0, e_1, e_2, e_3, e_4]; try rfl), by first | rfl | (simp only [e_0, e_1, e_2, e_3, e_4]; try rfl)⟩, by rw [ht]; exact hP9, hD9, hS.F ht⟩) hS.2.2 dR_place_54
    · have c_3 := xb_bi_f.mp c_3
      refine lv_iconst (v := 1) hx hb dR_place_25 (by decide) ?_
      refine lv_goto (tgt := 43) hx hb dR_place_26 (by decide) ?_
      refine va_put (D := (dC, dI)) (ci := 3) (v := .int 1) (ty := .int) (C := xR_R) (T := xF_R) (N := 20) hx hb hts xi_R xt_R xt_R_ok xn_R hown hK hP hD hS 0 rfl rfl 0 (by decide) (hts _ xk_646) (fun _ h9 => h9) rfl (by decide +kernel) rfl rfl (Nat.le_of_ble_eq_true rfl) dR_place_43 (fun H locs hP hD hS => ?_)
      have hP : va_P (dC, dI) classes [(h0, .inr (3, [.int 1, .ref ta, .int zs, .int po, .int fa, .ref da, .ref ra, .ref la, .long we, .long le, .int pk, .int pm, .int co, .ref pa, .int pl, .ref xa, .ref ya, .int mb, .ref ea, .ref wa])), (xa, .inl (cI, 32, .inl xf)), (ya, .inl (cI, 32, .inl yf))] H := hP
      have hD : va_D A [(h0, .inr (3, [.int 1, .ref ta, .int zs, .int po, .int fa, .ref da, .ref ra, .ref la, .long we, .long le, .int pk, .int pm, .int co, .ref pa, .int pl, .ref xa, .ref ya, .int mb, .ref ea, .ref wa])), (xa, .inl (cI, 32, .inl xf)), (ya, .inl (cI, 32, .inl yf))] := hD
      refine lv_aload_n hx hb dR_place_46 rfl (lv_at hl 0 rfl) ?_
      refine va_get (D := (dC, dI)) (ci := 3) (v := .int 1) (C := xR_R) (T := xF_R) (N := 20) hx hb hts xi_R hown hK hP 0 rfl rfl 0 (by decide) (hts _ xk_646) (fun _ h9 => h9) rfl dR_place_47 ?_
      refine lv_if_le (tgt := 55) hx hb dR_place_50 (by decide) (fun c_9 => ?_) (fun c_9 => ?_)
      · exact absurd c_9 (by decide)
      · refine lv_iconst (v := 0) hx hb dR_place_53 (by decide) ?_
        have e_0 : gR_place xf yf pl x y = (0 : Int32) := (if_pos c_1).trans ((if_neg c_3).trans (rfl))
        have e_1 : gR_place_0 xf yf pl x y = (1 : Int32) := (if_pos c_1).trans ((if_neg c_3).trans (rfl))
        have e_2 : gR_place_14 xf yf pl x y = pl := (if_pos c_1).trans ((if_neg c_3).trans (rfl))
        have e_3 : gR_place_x xf yf pl x y = xf := (if_pos c_1).trans ((if_neg c_3).trans (rfl))
        have e_4 : gR_place_y xf yf pl x y = yf := (if_pos c_1).trans ((if_neg c_3).trans (rfl))
        have hP9 := hP.sub (ws' := [(h0, .inr (3, [.int 1, .ref ta, .int zs, .int po, .int fa, .ref da, .ref ra, .ref la, .long we, .long le, .int pk, .int pm, .int co, .ref pa, .int pl, .ref xa, .ref ya, .int mb, .ref ea, .ref wa])), (xa, .inl (cI, 32, .inl xf)), (ya, .inl (cI, 32, .inl yf))]) [0, 1, 2] rfl
        have hD9 := hD.sub (ws' := [(h0, .inr (3, [.int 1, .ref ta, .int zs, .int po, .int fa, .ref da, .ref ra, .ref la, .long we, .long le, .int pk, .int pm, .int co, .ref pa, .int pl, .ref xa, .ref ya, .int mb, .ref ea, .ref wa])), (xa, .inl (cI, 32, .inl xf)), (ya, .inl (cI, 32, .inl yf))]) [0, 1, 2] (by decide) rfl
        exact W.iret (v := 0) hx hb hr (fun t ht hW => ⟨_, _, rfl, ⟨by first | rfl | (simp only [e_0, e_1, e_2, e_3, e_4]; try rfl), by first | rfl | (simp only [e_0, e_1, e_2, e_3, e_4]; try rfl)⟩, by rw [ht]; exact hP9, hD9, hS.F ht⟩) hS.2.2 dR_place_54

def gR_thick (rf : Nat → Int32) (kind : Int32) (tk : Int32) : Bool := if (fR_isFour kind) = true then (if 0 ≤ tk then (if tk.toInt64 < (fR_space rf kind (6)) then (false) else (true)) else (false)) else (false)
def gR_thick_0 (rf : Nat → Int32) (kind : Int32) (tk : Int32) : Int32 := if (fR_isFour kind) = true then (if 0 ≤ tk then (if tk.toInt64 < (fR_space rf kind (6)) then ((0)) else ((0))) else ((2))) else ((1))
set_option maxHeartbeats 4000000 in
set_option maxRecDepth 100000 in
theorem cR_thick (l : Launch) {s0 : State} {dC : Nat → ClassId} {dI : Nat → Nat → Nat} {cI cC cL cO : ClassId} (E : xb_Env l s0 dC dI (xtys cI cC cL cO)) (sz : Nat) (h0 : Nat) (ra : Nat) (th : Int32) (ta : Nat) (zs : Int32) (po : Int32) (fa : Int32) (da : Nat) (la : Nat) (we : Int64) (le : Int64) (pk : Int32) (pm : Int32) (co : Int32) (pa : Nat) (pl : Int32) (xa : Nat) (ya : Nat) (mb : Int32) (ea : Nat) (wa : Nat) (rf : Nat → Int32) (kind : Int32) (tk : Int32) : Met l yR_thick [.code yR_thick bR_thick 3 (some (.boolean))] ({ frames := 1, cells := 0, slots := 0, locals := 22 }) (va_Pc [.ref h0, .int kind, .int tk] (fun U => xb_At s0 U ∧ U.heap.size = sz ∧ va_P (dC, dI) classes [(h0, .inr (3, [.int th, .ref ta, .int zs, .int po, .int fa, .ref da, .ref ra, .ref la, .long we, .long le, .int pk, .int pm, .int co, .ref pa, .int pl, .ref xa, .ref ya, .int mb, .ref ea, .ref wa])), (ra, .inl (cI, 28, .inl rf))] U.heap ∧ va_D (fun q => s0.heap.size ≤ q) [(h0, .inr (3, [.int th, .ref ta, .int zs, .int po, .int fa, .ref da, .ref ra, .ref la, .long we, .long le, .int pk, .int pm, .int co, .ref pa, .int pl, .ref xa, .ref ya, .int mb, .ref ea, .ref wa])), (ra, .inl (cI, 28, .inl rf))])) (xb_W (dC, dI) (fun v9 w9 => v9 = some (.int (xb_bi (gR_thick rf kind tk))) ∧ w9 = [(h0, .inr (3, [.int (gR_thick_0 rf kind tk), .ref ta, .int zs, .int po, .int fa, .ref da, .ref ra, .ref la, .long we, .long le, .int pk, .int pm, .int co, .ref pa, .int pl, .ref xa, .ref ya, .int mb, .ref ea, .ref wa])), (ra, .inl (cI, 28, .inl rf))]) (va_A [(h0, .inr (3, [.int th, .ref ta, .int zs, .int po, .int fa, .ref da, .ref ra, .ref la, .long we, .long le, .int pk, .int pm, .int co, .ref pa, .int pl, .ref xa, .ref ya, .int mb, .ref ea, .ref wa])), (ra, .inl (cI, 28, .inl rf))] sz)) 0 0 (va_A [(h0, .inr (3, [.int th, .ref ta, .int zs, .int po, .int fa, .ref da, .ref ra, .ref la, .long we, .long le, .int pk, .int pm, .int co, .ref pa, .int pl, .ref xa, .ref ya, .int mb, .ref ea, .ref wa])), (ra, .inl (cI, 28, .inl rf))] sz) := by
  refine Met.ofW (cc := bR_thick) (maxL := 3) (ret := (some (.boolean))) (by decide) rfl ?_
  intro p e s m args below meth c s₁ B hml hv
  obtain ⟨rfl, hAt, hsz, hP, hD0⟩ := hv
  have hx := B.exec
  have hb := B.bytes
  have hr := B.returns
  have hts := xb_hts E hAt ([.ref h0, .int kind, .int tk] : List Value).toArray
  have hown : s.vm.findClass "NailRulesModel" = some m.cls := findClass_of_methodNamed B.named
  have hlocks := B.notSynchronized
  have hK := xb_K E hAt
  subst hsz
  have hA0 := xb_A0 hAt hD0
  have hD := hD0.self (sz := s.heap.size)
  generalize hAe : va_A [(h0, .inr (3, [.int th, .ref ta, .int zs, .int po, .int fa, .ref da, .ref ra, .ref la, .long we, .long le, .int pk, .int pm, .int co, .ref pa, .int pl, .ref xa, .ref ya, .int mb, .ref ea, .ref wa])), (ra, .inl (cI, 28, .inl rf))] s.heap.size = A at hD hA0 ⊢
  have hA : ∀ q : Nat, s.heap.size ≤ q → A q := fun q h => by rw [← hAe]; exact Or.inr h
  have hS : va_S A s.heap s.heap [] := va_S.rf
  have hl := lv_entry ([.ref h0, .int kind, .int tk]) (n := 3) (Nat.le_of_ble_eq_true rfl)
  rw [lg_entry_eq]
  generalize (lg_sl ([.ref h0, .int kind, .int tk]) ++ List.replicate (3 - (lg_sl ([.ref h0, .int kind, .int tk])).length) Slot.unset).toArray = ls at hl ⊢
  have hl : lv_has ls 3 [(0, .ref h0), (1, .int kind), (2, .int tk)] := hl
  refine lv_aload_n hx hb dR_thick_0 rfl (lv_at hl 0 rfl) ?_
  refine lv_iload_n hx hb dR_thick_1 rfl (lv_at hl 1 rfl) ?_
  refine xb_rd (W.runS (As := [.int kind]) (rest := [.ref h0]) ⟨hx, hb, hml, hown, hts⟩ (cR_isFour l E kind) (cwS 1 hts (xb_gi (List.forall_mem_cons.mpr ⟨xk_750, List.forall_mem_cons.mpr ⟨xk_751, List.forall_mem_cons.mpr ⟨xk_45, List.forall_mem_cons.mpr ⟨xk_752, fun _ h => absurd h List.not_mem_nil⟩⟩⟩⟩)) rfl rfl rfl (by decide +kernel) ⟨Nat.le_of_ble_eq_true rfl, Nat.le_of_ble_eq_true rfl⟩) ⟨fun _ _ _ _ q => q, fun U hU hW => ⟨rfl, xb_atS hAt hS hA0 hU hW, fun k q h => by simp at h⟩⟩ rfl rfl hl.1 rfl (lv_room (Nat.le_of_ble_eq_true rfl)) dR_thick_2 ⟨Nat.zero_le _, Nat.zero_le _⟩) ?_
  refine lv_if_ne (tgt := 12) hx hb dR_thick_5 (by decide) (fun c_1 => ?_) (fun c_1 => ?_)
  · have c_1 := xb_bi_t.mp c_1
    refine lv_iload_n hx hb dR_thick_12 rfl (lv_at hl 2 rfl) ?_
    refine lv_if_ge (tgt := 20) hx hb dR_thick_13 (by decide) (fun c_2 => ?_) (fun c_2 => ?_)
    · refine lv_iconst (v := 0) hx hb dR_thick_20 (by decide) ?_
      refine va_put (D := (dC, dI)) (ci := 3) (v := .int 0) (ty := .int) (C := xR_R) (T := xF_R) (N := 20) hx hb hts xi_R xt_R xt_R_ok xn_R hown hK hP hD hS 0 rfl rfl 0 (by decide) (hts _ xk_646) (fun _ h9 => h9) rfl (by decide +kernel) rfl rfl (Nat.le_of_ble_eq_true rfl) dR_thick_21 (fun H locs hP hD hS => ?_)
      have hP : va_P (dC, dI) classes [(h0, .inr (3, [.int 0, .ref ta, .int zs, .int po, .int fa, .ref da, .ref ra, .ref la, .long we, .long le, .int pk, .int pm, .int co, .ref pa, .int pl, .ref xa, .ref ya, .int mb, .ref ea, .ref wa])), (ra, .inl (cI, 28, .inl rf))] H := hP
      have hD : va_D A [(h0, .inr (3, [.int 0, .ref ta, .int zs, .int po, .int fa, .ref da, .ref ra, .ref la, .long we, .long le, .int pk, .int pm, .int co, .ref pa, .int pl, .ref xa, .ref ya, .int mb, .ref ea, .ref wa])), (ra, .inl (cI, 28, .inl rf))] := hD
      refine lv_aload_n hx hb dR_thick_24 rfl (lv_at hl 0 rfl) ?_
      refine va_get (D := (dC, dI)) (ci := 3) (v := .int 0) (C := xR_R) (T := xF_R) (N := 20) hx hb hts xi_R hown hK hP 0 rfl rfl 0 (by decide) (hts _ xk_646) (fun _ h9 => h9) rfl dR_thick_25 ?_
      refine lv_if_ne (tgt := 48) hx hb dR_thick_28 (by decide) (fun c_3 => ?_) (fun c_3 => ?_)
      · exact absurd c_3 (by decide)
      · refine lv_iload_n hx hb dR_thick_31 rfl (lv_at hl 2 rfl) ?_
        refine lv_i2l hx hb dR_thick_32 rfl ?_
        refine lv_aload_n hx hb dR_thick_33 rfl (lv_at hl 0 rfl) ?_
        refine lv_iload_n hx hb dR_thick_34 rfl (lv_at hl 1 rfl) ?_
        refine lv_bipush (v := 6) hx hb dR_thick_35 (by decide) ?_
        refine xb_rd (W.runV (C := "NailRulesModel") (As := [.int kind, .int 6]) (rest := [.long tk.toInt64]) ⟨hx, hb, hml, hown, hts⟩ (cR_space l E h0 ([.int 0, .ref ta, .int zs, .int po, .int fa, .ref da, .ref ra, .ref la, .long we, .long le, .int pk, .int pm, .int co, .ref pa, .int pl, .ref xa, .ref ya, .int mb, .ref ea, .ref wa]) ra rf kind 6 rfl (xp_rul0 (by assumption)) (xp_rulN 6 (by decide) (by assumption))) (cwV 2 hts (xb_gi (List.forall_mem_cons.mpr ⟨xk_792, List.forall_mem_cons.mpr ⟨xk_794, List.forall_mem_cons.mpr ⟨xk_36, List.forall_mem_cons.mpr ⟨xk_45, List.forall_mem_cons.mpr ⟨xk_795, fun _ h => absurd h List.not_mem_nil⟩⟩⟩⟩⟩)) rfl rfl rfl (by decide +kernel) ⟨Nat.le_of_ble_eq_true rfl, Nat.le_of_ble_eq_true rfl⟩) ⟨fun _ _ _ _ q => q, va_recv hK hP (ci := 3) (q0 := 0) rfl rfl, fun U hU hW => ⟨rfl, xb_atS hAt hS hA0 hU hW, by rw [hU]; exact hP.sub (ws' := [(h0, .inr (3, [.int 0, .ref ta, .int zs, .int po, .int fa, .ref da, .ref ra, .ref la, .long we, .long le, .int pk, .int pm, .int co, .ref pa, .int pl, .ref xa, .ref ya, .int mb, .ref ea, .ref wa])), (ra, .inl (cI, 28, .inl rf))]) [0, 1] rfl⟩⟩ rfl rfl hl.1 rfl (lv_room (Nat.le_of_ble_eq_true rfl)) dR_thick_37 ⟨Nat.zero_le _, Nat.zero_le _⟩) ?_
        refine W.lcmp hx hb dR_thick_40 ?_
        refine lv_if_lt (tgt := 48) hx hb dR_thick_41 (by decide) (fun c_4 => ?_) (fun c_4 => ?_)
        · have c_4 := (lg_cmp_lt _ _).mp c_4
          refine lv_iconst (v := 0) hx hb dR_thick_48 (by decide) ?_
          have e_0 : gR_thick rf kind tk = false := (if_pos c_1).trans ((if_pos c_2).trans ((if_pos c_4).trans (rfl)))
          have e_1 : gR_thick_0 rf kind tk = (0 : Int32) := (if_pos c_1).trans ((if_pos c_2).trans ((if_pos c_4).trans (rfl)))
          have hP9 := hP.sub (ws' := [(h0, .inr (3, [.int 0, .ref ta, .int zs, .int po, .int fa, .ref da, .ref ra, .ref la, .long we, .long le, .int pk, .int pm, .int co, .ref pa, .int pl, .ref xa, .ref ya, .int mb, .ref ea, .ref wa])), (ra, .inl (cI, 28, .inl rf))]) [0, 1] rfl
          have hD9 := hD.sub (ws' := [(h0, .inr (3, [.int 0, .ref ta, .int zs, .int po, .int fa, .ref da, .ref ra, .ref la, .long we, .long le, .int pk, .int pm, .int co, .ref pa, .int pl, .ref xa, .ref ya, .int mb, .ref ea, .ref wa])), (ra, .inl (cI, 28, .inl rf))]) [0, 1] (by decide) rfl
          exact W.zret (v := 0) hx hb hr (by decide) (fun t ht hW => ⟨_, _, rfl, ⟨by first | rfl | (simp only [e_0, e_1]; try rfl), by first | rfl | (simp only [e_0, e_1]; try rfl)⟩, by rw [ht]; exact hP9, hD9, hS.F ht⟩) hS.2.2 dR_thick_49
        · have c_4 := fun q => c_4 ((lg_cmp_lt _ _).mpr q)
          refine lv_iconst (v := 1) hx hb dR_thick_44 (by decide) ?_
          refine lv_goto (tgt := 49) hx hb dR_thick_45 (by decide) ?_
          have e_0 : gR_thick rf kind tk = true := (if_pos c_1).trans ((if_pos c_2).trans ((if_neg c_4).trans (rfl)))
          have e_1 : gR_thick_0 rf kind tk = (0 : Int32) := (if_pos c_1).trans ((if_pos c_2).trans ((if_neg c_4).trans (rfl)))
          have hP9 := hP.sub (ws' := [(h0, .inr (3, [.int 0, .ref ta, .int zs, .int po, .int fa, .ref da, .ref ra, .ref la, .long we, .long le, .int pk, .int pm, .int co, .ref pa, .int pl, .ref xa, .ref ya, .int mb, .ref ea, .ref wa])), (ra, .inl (cI, 28, .inl rf))]) [0, 1] rfl
          have hD9 := hD.sub (ws' := [(h0, .inr (3, [.int 0, .ref ta, .int zs, .int po, .int fa, .ref da, .ref ra, .ref la, .long we, .long le, .int pk, .int pm, .int co, .ref pa, .int pl, .ref xa, .ref ya, .int mb, .ref ea, .ref wa])), (ra, .inl (cI, 28, .inl rf))]) [0, 1] (by decide) rfl
          exact W.zret (v := 1) hx hb hr (by decide) (fun t ht hW => ⟨_, _, rfl, ⟨by first | rfl | (simp only [e_0, e_1]; try rfl), by first | rfl | (simp only [e_0, e_1]; try rfl)⟩, by rw [ht]; exact hP9, hD9, hS.F ht⟩) hS.2.2 dR_thick_49
    · refine lv_iconst (v := 2) hx hb dR_thick_16 (by decide) ?_
      refine lv_goto (tgt := 21) hx hb dR_thick_17 (by decide) ?_
      refine va_put (D := (dC, dI)) (ci := 3) (v := .int 2) (ty := .int) (C := xR_R) (T := xF_R) (N := 20) hx hb hts xi_R xt_R xt_R_ok xn_R hown hK hP hD hS 0 rfl rfl 0 (by decide) (hts _ xk_646) (fun _ h9 => h9) rfl (by decide +kernel) rfl rfl (Nat.le_of_ble_eq_true rfl) dR_thick_21 (fun H locs hP hD hS => ?_)
      have hP : va_P (dC, dI) classes [(h0, .inr (3, [.int 2, .ref ta, .int zs, .int po, .int fa, .ref da, .ref ra, .ref la, .long we, .long le, .int pk, .int pm, .int co, .ref pa, .int pl, .ref xa, .ref ya, .int mb, .ref ea, .ref wa])), (ra, .inl (cI, 28, .inl rf))] H := hP
      have hD : va_D A [(h0, .inr (3, [.int 2, .ref ta, .int zs, .int po, .int fa, .ref da, .ref ra, .ref la, .long we, .long le, .int pk, .int pm, .int co, .ref pa, .int pl, .ref xa, .ref ya, .int mb, .ref ea, .ref wa])), (ra, .inl (cI, 28, .inl rf))] := hD
      refine lv_aload_n hx hb dR_thick_24 rfl (lv_at hl 0 rfl) ?_
      refine va_get (D := (dC, dI)) (ci := 3) (v := .int 2) (C := xR_R) (T := xF_R) (N := 20) hx hb hts xi_R hown hK hP 0 rfl rfl 0 (by decide) (hts _ xk_646) (fun _ h9 => h9) rfl dR_thick_25 ?_
      refine lv_if_ne (tgt := 48) hx hb dR_thick_28 (by decide) (fun c_5 => ?_) (fun c_5 => ?_)
      · refine lv_iconst (v := 0) hx hb dR_thick_48 (by decide) ?_
        have e_0 : gR_thick rf kind tk = false := (if_pos c_1).trans ((if_neg c_2).trans (rfl))
        have e_1 : gR_thick_0 rf kind tk = (2 : Int32) := (if_pos c_1).trans ((if_neg c_2).trans (rfl))
        have hP9 := hP.sub (ws' := [(h0, .inr (3, [.int 2, .ref ta, .int zs, .int po, .int fa, .ref da, .ref ra, .ref la, .long we, .long le, .int pk, .int pm, .int co, .ref pa, .int pl, .ref xa, .ref ya, .int mb, .ref ea, .ref wa])), (ra, .inl (cI, 28, .inl rf))]) [0, 1] rfl
        have hD9 := hD.sub (ws' := [(h0, .inr (3, [.int 2, .ref ta, .int zs, .int po, .int fa, .ref da, .ref ra, .ref la, .long we, .long le, .int pk, .int pm, .int co, .ref pa, .int pl, .ref xa, .ref ya, .int mb, .ref ea, .ref wa])), (ra, .inl (cI, 28, .inl rf))]) [0, 1] (by decide) rfl
        exact W.zret (v := 0) hx hb hr (by decide) (fun t ht hW => ⟨_, _, rfl, ⟨by first | rfl | (simp only [e_0, e_1]; try rfl), by first | rfl | (simp only [e_0, e_1]; try rfl)⟩, by rw [ht]; exact hP9, hD9, hS.F ht⟩) hS.2.2 dR_thick_49
      · exact absurd c_5 (by decide)
  · have c_1 := xb_bi_f.mp c_1
    refine lv_iconst (v := 1) hx hb dR_thick_8 (by decide) ?_
    refine lv_goto (tgt := 21) hx hb dR_thick_9 (by decide) ?_
    refine va_put (D := (dC, dI)) (ci := 3) (v := .int 1) (ty := .int) (C := xR_R) (T := xF_R) (N := 20) hx hb hts xi_R xt_R xt_R_ok xn_R hown hK hP hD hS 0 rfl rfl 0 (by decide) (hts _ xk_646) (fun _ h9 => h9) rfl (by decide +kernel) rfl rfl (Nat.le_of_ble_eq_true rfl) dR_thick_21 (fun H locs hP hD hS => ?_)
    have hP : va_P (dC, dI) classes [(h0, .inr (3, [.int 1, .ref ta, .int zs, .int po, .int fa, .ref da, .ref ra, .ref la, .long we, .long le, .int pk, .int pm, .int co, .ref pa, .int pl, .ref xa, .ref ya, .int mb, .ref ea, .ref wa])), (ra, .inl (cI, 28, .inl rf))] H := hP
    have hD : va_D A [(h0, .inr (3, [.int 1, .ref ta, .int zs, .int po, .int fa, .ref da, .ref ra, .ref la, .long we, .long le, .int pk, .int pm, .int co, .ref pa, .int pl, .ref xa, .ref ya, .int mb, .ref ea, .ref wa])), (ra, .inl (cI, 28, .inl rf))] := hD
    refine lv_aload_n hx hb dR_thick_24 rfl (lv_at hl 0 rfl) ?_
    refine va_get (D := (dC, dI)) (ci := 3) (v := .int 1) (C := xR_R) (T := xF_R) (N := 20) hx hb hts xi_R hown hK hP 0 rfl rfl 0 (by decide) (hts _ xk_646) (fun _ h9 => h9) rfl dR_thick_25 ?_
    refine lv_if_ne (tgt := 48) hx hb dR_thick_28 (by decide) (fun c_6 => ?_) (fun c_6 => ?_)
    · refine lv_iconst (v := 0) hx hb dR_thick_48 (by decide) ?_
      have e_0 : gR_thick rf kind tk = false := (if_neg c_1).trans (rfl)
      have e_1 : gR_thick_0 rf kind tk = (1 : Int32) := (if_neg c_1).trans (rfl)
      have hP9 := hP.sub (ws' := [(h0, .inr (3, [.int 1, .ref ta, .int zs, .int po, .int fa, .ref da, .ref ra, .ref la, .long we, .long le, .int pk, .int pm, .int co, .ref pa, .int pl, .ref xa, .ref ya, .int mb, .ref ea, .ref wa])), (ra, .inl (cI, 28, .inl rf))]) [0, 1] rfl
      have hD9 := hD.sub (ws' := [(h0, .inr (3, [.int 1, .ref ta, .int zs, .int po, .int fa, .ref da, .ref ra, .ref la, .long we, .long le, .int pk, .int pm, .int co, .ref pa, .int pl, .ref xa, .ref ya, .int mb, .ref ea, .ref wa])), (ra, .inl (cI, 28, .inl rf))]) [0, 1] (by decide) rfl
      exact W.zret (v := 0) hx hb hr (by decide) (fun t ht hW => ⟨_, _, rfl, ⟨by first | rfl | (simp only [e_0, e_1]; try rfl), by first | rfl | (simp only [e_0, e_1]; try rfl)⟩, by rw [ht]; exact hP9, hD9, hS.F ht⟩) hS.2.2 dR_thick_49
    · exact absurd c_6 (by decide)

def gR_hole (rf : Nat → Int32) (kind : Int32) : Int32 := if (fR_isFour kind) = true then (if kind = 3 then (rf (7 * kind).toNatClampNeg) else (if kind = 2 then ((rf (7 * kind).toNatClampNeg) + 10) else (if kind = 1 then (((rf (7 * kind).toNatClampNeg) * 7) / 10) else (if (rf (7 * kind).toNatClampNeg) ≤ 50 then ((0)) else (((rf (7 * kind).toNatClampNeg) * 7) / 10))))) else ((0))
def gR_hole_0 (rf : Nat → Int32) (kind : Int32) : Int32 := if (fR_isFour kind) = true then (if kind = 3 then ((0)) else (if kind = 2 then ((0)) else (if kind = 1 then ((0)) else (if (rf (7 * kind).toNatClampNeg) ≤ 50 then ((0)) else ((0)))))) else ((1))
set_option maxHeartbeats 4000000 in
set_option maxRecDepth 100000 in
theorem cR_hole (l : Launch) {s0 : State} {dC : Nat → ClassId} {dI : Nat → Nat → Nat} {cI cC cL cO : ClassId} (E : xb_Env l s0 dC dI (xtys cI cC cL cO)) (sz : Nat) (h0 : Nat) (ra : Nat) (th : Int32) (ta : Nat) (zs : Int32) (po : Int32) (fa : Int32) (da : Nat) (la : Nat) (we : Int64) (le : Int64) (pk : Int32) (pm : Int32) (co : Int32) (pa : Nat) (pl : Int32) (xa : Nat) (ya : Nat) (mb : Int32) (ea : Nat) (wa : Nat) (rf : Nat → Int32) (kind : Int32) : Met l yR_hole [.code yR_hole bR_hole 3 (some (.int))] ({ frames := 1, cells := 0, slots := 0, locals := 20 }) (va_Pc [.ref h0, .int kind] (fun U => xb_At s0 U ∧ U.heap.size = sz ∧ va_P (dC, dI) classes [(h0, .inr (3, [.int th, .ref ta, .int zs, .int po, .int fa, .ref da, .ref ra, .ref la, .long we, .long le, .int pk, .int pm, .int co, .ref pa, .int pl, .ref xa, .ref ya, .int mb, .ref ea, .ref wa])), (ra, .inl (cI, 28, .inl rf))] U.heap ∧ va_D (fun q => s0.heap.size ≤ q) [(h0, .inr (3, [.int th, .ref ta, .int zs, .int po, .int fa, .ref da, .ref ra, .ref la, .long we, .long le, .int pk, .int pm, .int co, .ref pa, .int pl, .ref xa, .ref ya, .int mb, .ref ea, .ref wa])), (ra, .inl (cI, 28, .inl rf))])) (xb_W (dC, dI) (fun v9 w9 => v9 = some (.int (gR_hole rf kind)) ∧ w9 = [(h0, .inr (3, [.int (gR_hole_0 rf kind), .ref ta, .int zs, .int po, .int fa, .ref da, .ref ra, .ref la, .long we, .long le, .int pk, .int pm, .int co, .ref pa, .int pl, .ref xa, .ref ya, .int mb, .ref ea, .ref wa])), (ra, .inl (cI, 28, .inl rf))]) (va_A [(h0, .inr (3, [.int th, .ref ta, .int zs, .int po, .int fa, .ref da, .ref ra, .ref la, .long we, .long le, .int pk, .int pm, .int co, .ref pa, .int pl, .ref xa, .ref ya, .int mb, .ref ea, .ref wa])), (ra, .inl (cI, 28, .inl rf))] sz)) 0 0 (va_A [(h0, .inr (3, [.int th, .ref ta, .int zs, .int po, .int fa, .ref da, .ref ra, .ref la, .long we, .long le, .int pk, .int pm, .int co, .ref pa, .int pl, .ref xa, .ref ya, .int mb, .ref ea, .ref wa])), (ra, .inl (cI, 28, .inl rf))] sz) := by
  refine Met.ofW (cc := bR_hole) (maxL := 3) (ret := (some (.int))) (by decide) rfl ?_
  intro p e s m args below meth c s₁ B hml hv
  obtain ⟨rfl, hAt, hsz, hP, hD0⟩ := hv
  have hx := B.exec
  have hb := B.bytes
  have hr := B.returns
  have hts := xb_hts E hAt ([.ref h0, .int kind] : List Value).toArray
  have hown : s.vm.findClass "NailRulesModel" = some m.cls := findClass_of_methodNamed B.named
  have hlocks := B.notSynchronized
  have hK := xb_K E hAt
  subst hsz
  have hA0 := xb_A0 hAt hD0
  have hD := hD0.self (sz := s.heap.size)
  generalize hAe : va_A [(h0, .inr (3, [.int th, .ref ta, .int zs, .int po, .int fa, .ref da, .ref ra, .ref la, .long we, .long le, .int pk, .int pm, .int co, .ref pa, .int pl, .ref xa, .ref ya, .int mb, .ref ea, .ref wa])), (ra, .inl (cI, 28, .inl rf))] s.heap.size = A at hD hA0 ⊢
  have hA : ∀ q : Nat, s.heap.size ≤ q → A q := fun q h => by rw [← hAe]; exact Or.inr h
  have hS : va_S A s.heap s.heap [] := va_S.rf
  have hl := lv_entry ([.ref h0, .int kind]) (n := 3) (Nat.le_of_ble_eq_true rfl)
  rw [lg_entry_eq]
  generalize (lg_sl ([.ref h0, .int kind]) ++ List.replicate (3 - (lg_sl ([.ref h0, .int kind])).length) Slot.unset).toArray = ls at hl ⊢
  have hl : lv_has ls 3 [(0, .ref h0), (1, .int kind)] := hl
  refine lv_aload_n hx hb dR_hole_0 rfl (lv_at hl 0 rfl) ?_
  refine lv_iload_n hx hb dR_hole_1 rfl (lv_at hl 1 rfl) ?_
  refine xb_rd (W.runS (As := [.int kind]) (rest := [.ref h0]) ⟨hx, hb, hml, hown, hts⟩ (cR_isFour l E kind) (cwS 1 hts (xb_gi (List.forall_mem_cons.mpr ⟨xk_750, List.forall_mem_cons.mpr ⟨xk_751, List.forall_mem_cons.mpr ⟨xk_45, List.forall_mem_cons.mpr ⟨xk_752, fun _ h => absurd h List.not_mem_nil⟩⟩⟩⟩)) rfl rfl rfl (by decide +kernel) ⟨Nat.le_of_ble_eq_true rfl, Nat.le_of_ble_eq_true rfl⟩) ⟨fun _ _ _ _ q => q, fun U hU hW => ⟨rfl, xb_atS hAt hS hA0 hU hW, fun k q h => by simp at h⟩⟩ rfl rfl hl.1 rfl (lv_room (Nat.le_of_ble_eq_true rfl)) dR_hole_2 ⟨Nat.zero_le _, Nat.zero_le _⟩) ?_
  refine lv_if_eq (tgt := 12) hx hb dR_hole_5 (by decide) (fun c_1 => ?_) (fun c_1 => ?_)
  · have c_1 := xb_bi_f.mp c_1
    refine lv_iconst (v := 1) hx hb dR_hole_12 (by decide) ?_
    refine va_put (D := (dC, dI)) (ci := 3) (v := .int 1) (ty := .int) (C := xR_R) (T := xF_R) (N := 20) hx hb hts xi_R xt_R xt_R_ok xn_R hown hK hP hD hS 0 rfl rfl 0 (by decide) (hts _ xk_646) (fun _ h9 => h9) rfl (by decide +kernel) rfl rfl (Nat.le_of_ble_eq_true rfl) dR_hole_13 (fun H locs hP hD hS => ?_)
    have hP : va_P (dC, dI) classes [(h0, .inr (3, [.int 1, .ref ta, .int zs, .int po, .int fa, .ref da, .ref ra, .ref la, .long we, .long le, .int pk, .int pm, .int co, .ref pa, .int pl, .ref xa, .ref ya, .int mb, .ref ea, .ref wa])), (ra, .inl (cI, 28, .inl rf))] H := hP
    have hD : va_D A [(h0, .inr (3, [.int 1, .ref ta, .int zs, .int po, .int fa, .ref da, .ref ra, .ref la, .long we, .long le, .int pk, .int pm, .int co, .ref pa, .int pl, .ref xa, .ref ya, .int mb, .ref ea, .ref wa])), (ra, .inl (cI, 28, .inl rf))] := hD
    refine lv_aload_n hx hb dR_hole_16 rfl (lv_at hl 0 rfl) ?_
    refine va_get (D := (dC, dI)) (ci := 3) (v := .int 1) (C := xR_R) (T := xF_R) (N := 20) hx hb hts xi_R hown hK hP 0 rfl rfl 0 (by decide) (hts _ xk_646) (fun _ h9 => h9) rfl dR_hole_17 ?_
    refine lv_if_le (tgt := 25) hx hb dR_hole_20 (by decide) (fun c_2 => ?_) (fun c_2 => ?_)
    · exact absurd c_2 (by decide)
    · refine lv_iconst (v := 0) hx hb dR_hole_23 (by decide) ?_
      have e_0 : gR_hole rf kind = (0 : Int32) := (if_neg c_1).trans (rfl)
      have e_1 : gR_hole_0 rf kind = (1 : Int32) := (if_neg c_1).trans (rfl)
      have hP9 := hP.sub (ws' := [(h0, .inr (3, [.int 1, .ref ta, .int zs, .int po, .int fa, .ref da, .ref ra, .ref la, .long we, .long le, .int pk, .int pm, .int co, .ref pa, .int pl, .ref xa, .ref ya, .int mb, .ref ea, .ref wa])), (ra, .inl (cI, 28, .inl rf))]) [0, 1] rfl
      have hD9 := hD.sub (ws' := [(h0, .inr (3, [.int 1, .ref ta, .int zs, .int po, .int fa, .ref da, .ref ra, .ref la, .long we, .long le, .int pk, .int pm, .int co, .ref pa, .int pl, .ref xa, .ref ya, .int mb, .ref ea, .ref wa])), (ra, .inl (cI, 28, .inl rf))]) [0, 1] (by decide) rfl
      exact W.iret (v := 0) hx hb hr (fun t ht hW => ⟨_, _, rfl, ⟨by first | rfl | (simp only [e_0, e_1]; try rfl), by first | rfl | (simp only [e_0, e_1]; try rfl)⟩, by rw [ht]; exact hP9, hD9, hS.F ht⟩) hS.2.2 dR_hole_24
  · have c_1 := xb_bi_t.mp c_1
    refine lv_iconst (v := 0) hx hb dR_hole_8 (by decide) ?_
    refine lv_goto (tgt := 13) hx hb dR_hole_9 (by decide) ?_
    refine va_put (D := (dC, dI)) (ci := 3) (v := .int 0) (ty := .int) (C := xR_R) (T := xF_R) (N := 20) hx hb hts xi_R xt_R xt_R_ok xn_R hown hK hP hD hS 0 rfl rfl 0 (by decide) (hts _ xk_646) (fun _ h9 => h9) rfl (by decide +kernel) rfl rfl (Nat.le_of_ble_eq_true rfl) dR_hole_13 (fun H locs hP hD hS => ?_)
    have hP : va_P (dC, dI) classes [(h0, .inr (3, [.int 0, .ref ta, .int zs, .int po, .int fa, .ref da, .ref ra, .ref la, .long we, .long le, .int pk, .int pm, .int co, .ref pa, .int pl, .ref xa, .ref ya, .int mb, .ref ea, .ref wa])), (ra, .inl (cI, 28, .inl rf))] H := hP
    have hD : va_D A [(h0, .inr (3, [.int 0, .ref ta, .int zs, .int po, .int fa, .ref da, .ref ra, .ref la, .long we, .long le, .int pk, .int pm, .int co, .ref pa, .int pl, .ref xa, .ref ya, .int mb, .ref ea, .ref wa])), (ra, .inl (cI, 28, .inl rf))] := hD
    refine lv_aload_n hx hb dR_hole_16 rfl (lv_at hl 0 rfl) ?_
    refine va_get (D := (dC, dI)) (ci := 3) (v := .int 0) (C := xR_R) (T := xF_R) (N := 20) hx hb hts xi_R hown hK hP 0 rfl rfl 0 (by decide) (hts _ xk_646) (fun _ h9 => h9) rfl dR_hole_17 ?_
    refine lv_if_le (tgt := 25) hx hb dR_hole_20 (by decide) (fun c_3 => ?_) (fun c_3 => ?_)
    · refine lv_aload_n hx hb dR_hole_25 rfl (lv_at hl 0 rfl) ?_
      refine va_get (D := (dC, dI)) (ci := 3) (v := .ref ra) (C := xR_R) (T := xF_R) (N := 20) hx hb hts xi_R hown hK hP 0 rfl rfl 6 (by decide) (hts _ xk_652) (fun _ h9 => h9) rfl dR_hole_26 ?_
      refine lv_bipush (v := 7) hx hb dR_hole_29 (by decide) ?_
      refine lv_iload_n hx hb dR_hole_31 rfl (lv_at hl 1 rfl) ?_
      refine lv_imul hx hb dR_hole_32 ?_
      have o_4 : vp_in (7 * kind) 28 := by exact xp_rul0 (by assumption)
      refine va_iald hx hb hK hP 1 0 rfl rfl o_4 dR_hole_33 ?_
      refine lv_istore_n (lv' := [(2, .int (rf (7 * kind).toNatClampNeg)), (0, .ref h0), (1, .int kind)]) hx hb dR_hole_34 rfl hl (by decide) rfl (fun ls hl => ?_)
      refine lv_iload_n hx hb dR_hole_35 rfl (lv_at hl 2 rfl) ?_
      refine lv_iconst (v := 3) hx hb dR_hole_36 (by decide) ?_
      refine lv_icmp_ne (tgt := 44) hx hb dR_hole_37 (by decide) (fun c_6 => ?_) (fun c_6 => ?_)
      · refine lv_iload_n hx hb dR_hole_44 rfl (lv_at hl 2 rfl) ?_
        refine lv_iconst (v := 2) hx hb dR_hole_45 (by decide) ?_
        refine lv_icmp_ne (tgt := 56) hx hb dR_hole_46 (by decide) (fun c_7 => ?_) (fun c_7 => ?_)
        · refine lv_iload_n hx hb dR_hole_56 rfl (lv_at hl 2 rfl) ?_
          refine lv_iconst (v := 1) hx hb dR_hole_57 (by decide) ?_
          refine lv_icmp_eq (tgt := 67) hx hb dR_hole_58 (by decide) (fun c_8 => ?_) (fun c_8 => ?_)
          · refine lv_iload_n hx hb dR_hole_67 rfl (lv_at hl 0 rfl) ?_
            refine lv_bipush (v := 7) hx hb dR_hole_68 (by decide) ?_
            refine lv_imul hx hb dR_hole_70 ?_
            refine lv_bipush (v := 10) hx hb dR_hole_71 (by decide) ?_
            refine lv_idiv hx hb dR_hole_73 (by decide) ?_
            refine lv_goto (tgt := 78) hx hb dR_hole_74 (by decide) ?_
            have e_0 : gR_hole rf kind = (((rf (7 * kind).toNatClampNeg) * 7) / 10) := (if_pos c_1).trans ((if_neg c_6).trans ((if_neg c_7).trans ((if_pos c_8).trans (rfl))))
            have e_1 : gR_hole_0 rf kind = (0 : Int32) := (if_pos c_1).trans ((if_neg c_6).trans ((if_neg c_7).trans ((if_pos c_8).trans (rfl))))
            have hP9 := hP.sub (ws' := [(h0, .inr (3, [.int 0, .ref ta, .int zs, .int po, .int fa, .ref da, .ref ra, .ref la, .long we, .long le, .int pk, .int pm, .int co, .ref pa, .int pl, .ref xa, .ref ya, .int mb, .ref ea, .ref wa])), (ra, .inl (cI, 28, .inl rf))]) [0, 1] rfl
            have hD9 := hD.sub (ws' := [(h0, .inr (3, [.int 0, .ref ta, .int zs, .int po, .int fa, .ref da, .ref ra, .ref la, .long we, .long le, .int pk, .int pm, .int co, .ref pa, .int pl, .ref xa, .ref ya, .int mb, .ref ea, .ref wa])), (ra, .inl (cI, 28, .inl rf))]) [0, 1] (by decide) rfl
            exact W.iret (v := (((rf (7 * kind).toNatClampNeg) * 7) / 10)) hx hb hr (fun t ht hW => ⟨_, _, rfl, ⟨by first | rfl | (simp only [e_0, e_1]; try rfl), by first | rfl | (simp only [e_0, e_1]; try rfl)⟩, by rw [ht]; exact hP9, hD9, hS.F ht⟩) hS.2.2 dR_hole_78
          · refine lv_iload_n hx hb dR_hole_61 rfl (lv_at hl 0 rfl) ?_
            refine lv_bipush (v := 50) hx hb dR_hole_62 (by decide) ?_
            refine lv_icmp_le (tgt := 77) hx hb dR_hole_64 (by decide) (fun c_9 => ?_) (fun c_9 => ?_)
            · refine lv_iconst (v := 0) hx hb dR_hole_77 (by decide) ?_
              have e_0 : gR_hole rf kind = (0 : Int32) := (if_pos c_1).trans ((if_neg c_6).trans ((if_neg c_7).trans ((if_neg c_8).trans ((if_pos c_9).trans (rfl)))))
              have e_1 : gR_hole_0 rf kind = (0 : Int32) := (if_pos c_1).trans ((if_neg c_6).trans ((if_neg c_7).trans ((if_neg c_8).trans ((if_pos c_9).trans (rfl)))))
              have hP9 := hP.sub (ws' := [(h0, .inr (3, [.int 0, .ref ta, .int zs, .int po, .int fa, .ref da, .ref ra, .ref la, .long we, .long le, .int pk, .int pm, .int co, .ref pa, .int pl, .ref xa, .ref ya, .int mb, .ref ea, .ref wa])), (ra, .inl (cI, 28, .inl rf))]) [0, 1] rfl
              have hD9 := hD.sub (ws' := [(h0, .inr (3, [.int 0, .ref ta, .int zs, .int po, .int fa, .ref da, .ref ra, .ref la, .long we, .long le, .int pk, .int pm, .int co, .ref pa, .int pl, .ref xa, .ref ya, .int mb, .ref ea, .ref wa])), (ra, .inl (cI, 28, .inl rf))]) [0, 1] (by decide) rfl
              exact W.iret (v := 0) hx hb hr (fun t ht hW => ⟨_, _, rfl, ⟨by first | rfl | (simp only [e_0, e_1]; try rfl), by first | rfl | (simp only [e_0, e_1]; try rfl)⟩, by rw [ht]; exact hP9, hD9, hS.F ht⟩) hS.2.2 dR_hole_78
            · refine lv_iload_n hx hb dR_hole_67 rfl (lv_at hl 0 rfl) ?_
              refine lv_bipush (v := 7) hx hb dR_hole_68 (by decide) ?_
              refine lv_imul hx hb dR_hole_70 ?_
              refine lv_bipush (v := 10) hx hb dR_hole_71 (by decide) ?_
              refine lv_idiv hx hb dR_hole_73 (by decide) ?_
              refine lv_goto (tgt := 78) hx hb dR_hole_74 (by decide) ?_
              have e_0 : gR_hole rf kind = (((rf (7 * kind).toNatClampNeg) * 7) / 10) := (if_pos c_1).trans ((if_neg c_6).trans ((if_neg c_7).trans ((if_neg c_8).trans ((if_neg c_9).trans (rfl)))))
              have e_1 : gR_hole_0 rf kind = (0 : Int32) := (if_pos c_1).trans ((if_neg c_6).trans ((if_neg c_7).trans ((if_neg c_8).trans ((if_neg c_9).trans (rfl)))))
              have hP9 := hP.sub (ws' := [(h0, .inr (3, [.int 0, .ref ta, .int zs, .int po, .int fa, .ref da, .ref ra, .ref la, .long we, .long le, .int pk, .int pm, .int co, .ref pa, .int pl, .ref xa, .ref ya, .int mb, .ref ea, .ref wa])), (ra, .inl (cI, 28, .inl rf))]) [0, 1] rfl
              have hD9 := hD.sub (ws' := [(h0, .inr (3, [.int 0, .ref ta, .int zs, .int po, .int fa, .ref da, .ref ra, .ref la, .long we, .long le, .int pk, .int pm, .int co, .ref pa, .int pl, .ref xa, .ref ya, .int mb, .ref ea, .ref wa])), (ra, .inl (cI, 28, .inl rf))]) [0, 1] (by decide) rfl
              exact W.iret (v := (((rf (7 * kind).toNatClampNeg) * 7) / 10)) hx hb hr (fun t ht hW => ⟨_, _, rfl, ⟨by first | rfl | (simp only [e_0, e_1]; try rfl), by first | rfl | (simp only [e_0, e_1]; try rfl)⟩, by rw [ht]; exact hP9, hD9, hS.F ht⟩) hS.2.2 dR_hole_78
        · refine lv_iload_n hx hb dR_hole_49 rfl (lv_at hl 0 rfl) ?_
          refine lv_bipush (v := 10) hx hb dR_hole_50 (by decide) ?_
          refine lv_iadd hx hb dR_hole_52 ?_
          refine lv_goto (tgt := 78) hx hb dR_hole_53 (by decide) ?_
          have e_0 : gR_hole rf kind = ((rf (7 * kind).toNatClampNeg) + 10) := (if_pos c_1).trans ((if_neg c_6).trans ((if_pos c_7).trans (rfl)))
          have e_1 : gR_hole_0 rf kind = (0 : Int32) := (if_pos c_1).trans ((if_neg c_6).trans ((if_pos c_7).trans (rfl)))
          have hP9 := hP.sub (ws' := [(h0, .inr (3, [.int 0, .ref ta, .int zs, .int po, .int fa, .ref da, .ref ra, .ref la, .long we, .long le, .int pk, .int pm, .int co, .ref pa, .int pl, .ref xa, .ref ya, .int mb, .ref ea, .ref wa])), (ra, .inl (cI, 28, .inl rf))]) [0, 1] rfl
          have hD9 := hD.sub (ws' := [(h0, .inr (3, [.int 0, .ref ta, .int zs, .int po, .int fa, .ref da, .ref ra, .ref la, .long we, .long le, .int pk, .int pm, .int co, .ref pa, .int pl, .ref xa, .ref ya, .int mb, .ref ea, .ref wa])), (ra, .inl (cI, 28, .inl rf))]) [0, 1] (by decide) rfl
          exact W.iret (v := ((rf (7 * kind).toNatClampNeg) + 10)) hx hb hr (fun t ht hW => ⟨_, _, rfl, ⟨by first | rfl | (simp only [e_0, e_1]; try rfl), by first | rfl | (simp only [e_0, e_1]; try rfl)⟩, by rw [ht]; exact hP9, hD9, hS.F ht⟩) hS.2.2 dR_hole_78
      · refine lv_iload_n hx hb dR_hole_40 rfl (lv_at hl 0 rfl) ?_
        refine lv_goto (tgt := 78) hx hb dR_hole_41 (by decide) ?_
        have e_0 : gR_hole rf kind = (rf (7 * kind).toNatClampNeg) := (if_pos c_1).trans ((if_pos c_6).trans (rfl))
        have e_1 : gR_hole_0 rf kind = (0 : Int32) := (if_pos c_1).trans ((if_pos c_6).trans (rfl))
        have hP9 := hP.sub (ws' := [(h0, .inr (3, [.int 0, .ref ta, .int zs, .int po, .int fa, .ref da, .ref ra, .ref la, .long we, .long le, .int pk, .int pm, .int co, .ref pa, .int pl, .ref xa, .ref ya, .int mb, .ref ea, .ref wa])), (ra, .inl (cI, 28, .inl rf))]) [0, 1] rfl
        have hD9 := hD.sub (ws' := [(h0, .inr (3, [.int 0, .ref ta, .int zs, .int po, .int fa, .ref da, .ref ra, .ref la, .long we, .long le, .int pk, .int pm, .int co, .ref pa, .int pl, .ref xa, .ref ya, .int mb, .ref ea, .ref wa])), (ra, .inl (cI, 28, .inl rf))]) [0, 1] (by decide) rfl
        exact W.iret (v := (rf (7 * kind).toNatClampNeg)) hx hb hr (fun t ht hW => ⟨_, _, rfl, ⟨by first | rfl | (simp only [e_0, e_1]; try rfl), by first | rfl | (simp only [e_0, e_1]; try rfl)⟩, by rw [ht]; exact hP9, hD9, hS.F ht⟩) hS.2.2 dR_hole_78
    · exact absurd c_3 (by decide)

def gR_in (ef : Nat → Int32) (wf : Nat → Int32) (mb : Int32) (m1 : Int32) (x : Int32) (y : Int32) : Bool := if (fR_noMember mb m1) = true then (false) else (if (fR_isPlace x) = true then (if (fR_isPlace y) = true then (if (fR_isWithin ef wf m1 x.toInt64 y.toInt64) = true then (true) else (false)) else (false)) else (false))
def gR_in_0 (ef : Nat → Int32) (wf : Nat → Int32) (mb : Int32) (m1 : Int32) (x : Int32) (y : Int32) : Int32 := if (fR_noMember mb m1) = true then ((1)) else (if (fR_isPlace x) = true then (if (fR_isPlace y) = true then (if (fR_isWithin ef wf m1 x.toInt64 y.toInt64) = true then ((0)) else ((0))) else ((2))) else ((2)))
set_option maxHeartbeats 4000000 in
set_option maxRecDepth 100000 in
theorem cR_in (l : Launch) {s0 : State} {dC : Nat → ClassId} {dI : Nat → Nat → Nat} {cI cC cL cO : ClassId} (E : xb_Env l s0 dC dI (xtys cI cC cL cO)) (sz : Nat) (h0 : Nat) (ea : Nat) (wa : Nat) (th : Int32) (ta : Nat) (zs : Int32) (po : Int32) (fa : Int32) (da : Nat) (ra : Nat) (la : Nat) (we : Int64) (le : Int64) (pk : Int32) (pm : Int32) (co : Int32) (pa : Nat) (pl : Int32) (xa : Nat) (ya : Nat) (mb : Int32) (ef : Nat → Int32) (wf : Nat → Int32) (m1 : Int32) (x : Int32) (y : Int32) (m6 : mb ≤ 6) : Met l yR_in [.code yR_in bR_in 4 (some (.boolean))] ({ frames := 2, cells := 0, slots := 0, locals := 45 }) (va_Pc [.ref h0, .int m1, .int x, .int y] (fun U => xb_At s0 U ∧ U.heap.size = sz ∧ va_P (dC, dI) classes [(h0, .inr (3, [.int th, .ref ta, .int zs, .int po, .int fa, .ref da, .ref ra, .ref la, .long we, .long le, .int pk, .int pm, .int co, .ref pa, .int pl, .ref xa, .ref ya, .int mb, .ref ea, .ref wa])), (ea, .inl (cI, 24, .inl ef)), (wa, .inl (cI, 6, .inl wf))] U.heap ∧ va_D (fun q => s0.heap.size ≤ q) [(h0, .inr (3, [.int th, .ref ta, .int zs, .int po, .int fa, .ref da, .ref ra, .ref la, .long we, .long le, .int pk, .int pm, .int co, .ref pa, .int pl, .ref xa, .ref ya, .int mb, .ref ea, .ref wa])), (ea, .inl (cI, 24, .inl ef)), (wa, .inl (cI, 6, .inl wf))])) (xb_W (dC, dI) (fun v9 w9 => v9 = some (.int (xb_bi (gR_in ef wf mb m1 x y))) ∧ w9 = [(h0, .inr (3, [.int (gR_in_0 ef wf mb m1 x y), .ref ta, .int zs, .int po, .int fa, .ref da, .ref ra, .ref la, .long we, .long le, .int pk, .int pm, .int co, .ref pa, .int pl, .ref xa, .ref ya, .int mb, .ref ea, .ref wa])), (ea, .inl (cI, 24, .inl ef)), (wa, .inl (cI, 6, .inl wf))]) (va_A [(h0, .inr (3, [.int th, .ref ta, .int zs, .int po, .int fa, .ref da, .ref ra, .ref la, .long we, .long le, .int pk, .int pm, .int co, .ref pa, .int pl, .ref xa, .ref ya, .int mb, .ref ea, .ref wa])), (ea, .inl (cI, 24, .inl ef)), (wa, .inl (cI, 6, .inl wf))] sz)) 0 0 (va_A [(h0, .inr (3, [.int th, .ref ta, .int zs, .int po, .int fa, .ref da, .ref ra, .ref la, .long we, .long le, .int pk, .int pm, .int co, .ref pa, .int pl, .ref xa, .ref ya, .int mb, .ref ea, .ref wa])), (ea, .inl (cI, 24, .inl ef)), (wa, .inl (cI, 6, .inl wf))] sz) := by
  refine Met.ofW (cc := bR_in) (maxL := 4) (ret := (some (.boolean))) (by decide) rfl ?_
  intro p e s m args below meth c s₁ B hml hv
  obtain ⟨rfl, hAt, hsz, hP, hD0⟩ := hv
  have hx := B.exec
  have hb := B.bytes
  have hr := B.returns
  have hts := xb_hts E hAt ([.ref h0, .int m1, .int x, .int y] : List Value).toArray
  have hown : s.vm.findClass "NailRulesModel" = some m.cls := findClass_of_methodNamed B.named
  have hlocks := B.notSynchronized
  have hK := xb_K E hAt
  subst hsz
  have hA0 := xb_A0 hAt hD0
  have hD := hD0.self (sz := s.heap.size)
  generalize hAe : va_A [(h0, .inr (3, [.int th, .ref ta, .int zs, .int po, .int fa, .ref da, .ref ra, .ref la, .long we, .long le, .int pk, .int pm, .int co, .ref pa, .int pl, .ref xa, .ref ya, .int mb, .ref ea, .ref wa])), (ea, .inl (cI, 24, .inl ef)), (wa, .inl (cI, 6, .inl wf))] s.heap.size = A at hD hA0 ⊢
  have hA : ∀ q : Nat, s.heap.size ≤ q → A q := fun q h => by rw [← hAe]; exact Or.inr h
  have hS : va_S A s.heap s.heap [] := va_S.rf
  have hl := lv_entry ([.ref h0, .int m1, .int x, .int y]) (n := 4) (Nat.le_of_ble_eq_true rfl)
  rw [lg_entry_eq]
  generalize (lg_sl ([.ref h0, .int m1, .int x, .int y]) ++ List.replicate (4 - (lg_sl ([.ref h0, .int m1, .int x, .int y])).length) Slot.unset).toArray = ls at hl ⊢
  have hl : lv_has ls 4 [(0, .ref h0), (1, .int m1), (2, .int x), (3, .int y)] := hl
  refine lv_aload_n hx hb dR_in_0 rfl (lv_at hl 0 rfl) ?_
  refine lv_aload_n hx hb dR_in_1 rfl (lv_at hl 0 rfl) ?_
  refine lv_iload_n hx hb dR_in_2 rfl (lv_at hl 1 rfl) ?_
  refine xb_rd (W.runV (C := "NailRulesModel") (As := [.int m1]) (rest := [.ref h0]) ⟨hx, hb, hml, hown, hts⟩ (cR_noMember l E h0 ([.int th, .ref ta, .int zs, .int po, .int fa, .ref da, .ref ra, .ref la, .long we, .long le, .int pk, .int pm, .int co, .ref pa, .int pl, .ref xa, .ref ya, .int mb, .ref ea, .ref wa]) mb m1 rfl) (cwV 1 hts (xb_gi (List.forall_mem_cons.mpr ⟨xk_828, List.forall_mem_cons.mpr ⟨xk_830, List.forall_mem_cons.mpr ⟨xk_37, List.forall_mem_cons.mpr ⟨xk_45, List.forall_mem_cons.mpr ⟨xk_831, fun _ h => absurd h List.not_mem_nil⟩⟩⟩⟩⟩)) rfl rfl rfl (by decide +kernel) ⟨Nat.le_of_ble_eq_true rfl, Nat.le_of_ble_eq_true rfl⟩) ⟨fun _ _ _ _ q => q, va_recv hK hP (ci := 3) (q0 := 0) rfl rfl, fun U hU hW => ⟨rfl, xb_atS hAt hS hA0 hU hW, by rw [hU]; exact hP.sub (ws' := [(h0, .inr (3, [.int th, .ref ta, .int zs, .int po, .int fa, .ref da, .ref ra, .ref la, .long we, .long le, .int pk, .int pm, .int co, .ref pa, .int pl, .ref xa, .ref ya, .int mb, .ref ea, .ref wa]))]) [0] rfl⟩⟩ rfl rfl hl.1 rfl (lv_room (Nat.le_of_ble_eq_true rfl)) dR_in_3 ⟨Nat.zero_le _, Nat.zero_le _⟩) ?_
  refine lv_if_eq (tgt := 13) hx hb dR_in_6 (by decide) (fun c_1 => ?_) (fun c_1 => ?_)
  · have c_1 := xb_bi_f.mp c_1
    refine lv_iload_n hx hb dR_in_13 rfl (lv_at hl 2 rfl) ?_
    refine xb_rd (W.runS (As := [.int x]) (rest := [.ref h0]) ⟨hx, hb, hml, hown, hts⟩ (cR_isPlace l E x) (cwS 1 hts (xb_gi (List.forall_mem_cons.mpr ⟨xk_819, List.forall_mem_cons.mpr ⟨xk_820, List.forall_mem_cons.mpr ⟨xk_45, List.forall_mem_cons.mpr ⟨xk_821, fun _ h => absurd h List.not_mem_nil⟩⟩⟩⟩)) rfl rfl rfl (by decide +kernel) ⟨Nat.le_of_ble_eq_true rfl, Nat.le_of_ble_eq_true rfl⟩) ⟨fun _ _ _ _ q => q, fun U hU hW => ⟨rfl, xb_atS hAt hS hA0 hU hW, fun k q h => by simp at h⟩⟩ rfl rfl hl.1 rfl (lv_room (Nat.le_of_ble_eq_true rfl)) dR_in_14 ⟨Nat.zero_le _, Nat.zero_le _⟩) ?_
    refine lv_if_eq (tgt := 31) hx hb dR_in_17 (by decide) (fun c_2 => ?_) (fun c_2 => ?_)
    · have c_2 := xb_bi_f.mp c_2
      refine lv_iconst (v := 2) hx hb dR_in_31 (by decide) ?_
      refine va_put (D := (dC, dI)) (ci := 3) (v := .int 2) (ty := .int) (C := xR_R) (T := xF_R) (N := 20) hx hb hts xi_R xt_R xt_R_ok xn_R hown hK hP hD hS 0 rfl rfl 0 (by decide) (hts _ xk_646) (fun _ h9 => h9) rfl (by decide +kernel) rfl rfl (Nat.le_of_ble_eq_true rfl) dR_in_32 (fun H locs hP hD hS => ?_)
      have hP : va_P (dC, dI) classes [(h0, .inr (3, [.int 2, .ref ta, .int zs, .int po, .int fa, .ref da, .ref ra, .ref la, .long we, .long le, .int pk, .int pm, .int co, .ref pa, .int pl, .ref xa, .ref ya, .int mb, .ref ea, .ref wa])), (ea, .inl (cI, 24, .inl ef)), (wa, .inl (cI, 6, .inl wf))] H := hP
      have hD : va_D A [(h0, .inr (3, [.int 2, .ref ta, .int zs, .int po, .int fa, .ref da, .ref ra, .ref la, .long we, .long le, .int pk, .int pm, .int co, .ref pa, .int pl, .ref xa, .ref ya, .int mb, .ref ea, .ref wa])), (ea, .inl (cI, 24, .inl ef)), (wa, .inl (cI, 6, .inl wf))] := hD
      refine lv_aload_n hx hb dR_in_35 rfl (lv_at hl 0 rfl) ?_
      refine va_get (D := (dC, dI)) (ci := 3) (v := .int 2) (C := xR_R) (T := xF_R) (N := 20) hx hb hts xi_R hown hK hP 0 rfl rfl 0 (by decide) (hts _ xk_646) (fun _ h9 => h9) rfl dR_in_36 ?_
      refine lv_if_ne (tgt := 58) hx hb dR_in_39 (by decide) (fun c_3 => ?_) (fun c_3 => ?_)
      · refine lv_iconst (v := 0) hx hb dR_in_58 (by decide) ?_
        have e_0 : gR_in ef wf mb m1 x y = false := (if_neg c_1).trans ((if_neg c_2).trans (rfl))
        have e_1 : gR_in_0 ef wf mb m1 x y = (2 : Int32) := (if_neg c_1).trans ((if_neg c_2).trans (rfl))
        have hP9 := hP.sub (ws' := [(h0, .inr (3, [.int 2, .ref ta, .int zs, .int po, .int fa, .ref da, .ref ra, .ref la, .long we, .long le, .int pk, .int pm, .int co, .ref pa, .int pl, .ref xa, .ref ya, .int mb, .ref ea, .ref wa])), (ea, .inl (cI, 24, .inl ef)), (wa, .inl (cI, 6, .inl wf))]) [0, 1, 2] rfl
        have hD9 := hD.sub (ws' := [(h0, .inr (3, [.int 2, .ref ta, .int zs, .int po, .int fa, .ref da, .ref ra, .ref la, .long we, .long le, .int pk, .int pm, .int co, .ref pa, .int pl, .ref xa, .ref ya, .int mb, .ref ea, .ref wa])), (ea, .inl (cI, 24, .inl ef)), (wa, .inl (cI, 6, .inl wf))]) [0, 1, 2] (by decide) rfl
        exact W.zret (v := 0) hx hb hr (by decide) (fun t ht hW => ⟨_, _, rfl, ⟨by first | rfl | (simp only [e_0, e_1]; try rfl), by first | rfl | (simp only [e_0, e_1]; try rfl)⟩, by rw [ht]; exact hP9, hD9, hS.F ht⟩) hS.2.2 dR_in_59
      · exact absurd c_3 (by decide)
    · have c_2 := xb_bi_t.mp c_2
      refine lv_iload_n hx hb dR_in_20 rfl (lv_at hl 3 rfl) ?_
      refine xb_rd (W.runS (As := [.int y]) (rest := [.ref h0]) ⟨hx, hb, hml, hown, hts⟩ (cR_isPlace l E y) (cwS 1 hts (xb_gi (List.forall_mem_cons.mpr ⟨xk_819, List.forall_mem_cons.mpr ⟨xk_820, List.forall_mem_cons.mpr ⟨xk_45, List.forall_mem_cons.mpr ⟨xk_821, fun _ h => absurd h List.not_mem_nil⟩⟩⟩⟩)) rfl rfl rfl (by decide +kernel) ⟨Nat.le_of_ble_eq_true rfl, Nat.le_of_ble_eq_true rfl⟩) ⟨fun _ _ _ _ q => q, fun U hU hW => ⟨rfl, xb_atS hAt hS hA0 hU hW, fun k q h => by simp at h⟩⟩ rfl rfl hl.1 rfl (lv_room (Nat.le_of_ble_eq_true rfl)) dR_in_21 ⟨Nat.zero_le _, Nat.zero_le _⟩) ?_
      refine lv_if_eq (tgt := 31) hx hb dR_in_24 (by decide) (fun c_4 => ?_) (fun c_4 => ?_)
      · have c_4 := xb_bi_f.mp c_4
        refine lv_iconst (v := 2) hx hb dR_in_31 (by decide) ?_
        refine va_put (D := (dC, dI)) (ci := 3) (v := .int 2) (ty := .int) (C := xR_R) (T := xF_R) (N := 20) hx hb hts xi_R xt_R xt_R_ok xn_R hown hK hP hD hS 0 rfl rfl 0 (by decide) (hts _ xk_646) (fun _ h9 => h9) rfl (by decide +kernel) rfl rfl (Nat.le_of_ble_eq_true rfl) dR_in_32 (fun H locs hP hD hS => ?_)
        have hP : va_P (dC, dI) classes [(h0, .inr (3, [.int 2, .ref ta, .int zs, .int po, .int fa, .ref da, .ref ra, .ref la, .long we, .long le, .int pk, .int pm, .int co, .ref pa, .int pl, .ref xa, .ref ya, .int mb, .ref ea, .ref wa])), (ea, .inl (cI, 24, .inl ef)), (wa, .inl (cI, 6, .inl wf))] H := hP
        have hD : va_D A [(h0, .inr (3, [.int 2, .ref ta, .int zs, .int po, .int fa, .ref da, .ref ra, .ref la, .long we, .long le, .int pk, .int pm, .int co, .ref pa, .int pl, .ref xa, .ref ya, .int mb, .ref ea, .ref wa])), (ea, .inl (cI, 24, .inl ef)), (wa, .inl (cI, 6, .inl wf))] := hD
        refine lv_aload_n hx hb dR_in_35 rfl (lv_at hl 0 rfl) ?_
        refine va_get (D := (dC, dI)) (ci := 3) (v := .int 2) (C := xR_R) (T := xF_R) (N := 20) hx hb hts xi_R hown hK hP 0 rfl rfl 0 (by decide) (hts _ xk_646) (fun _ h9 => h9) rfl dR_in_36 ?_
        refine lv_if_ne (tgt := 58) hx hb dR_in_39 (by decide) (fun c_5 => ?_) (fun c_5 => ?_)
        · refine lv_iconst (v := 0) hx hb dR_in_58 (by decide) ?_
          have e_0 : gR_in ef wf mb m1 x y = false := (if_neg c_1).trans ((if_pos c_2).trans ((if_neg c_4).trans (rfl)))
          have e_1 : gR_in_0 ef wf mb m1 x y = (2 : Int32) := (if_neg c_1).trans ((if_pos c_2).trans ((if_neg c_4).trans (rfl)))
          have hP9 := hP.sub (ws' := [(h0, .inr (3, [.int 2, .ref ta, .int zs, .int po, .int fa, .ref da, .ref ra, .ref la, .long we, .long le, .int pk, .int pm, .int co, .ref pa, .int pl, .ref xa, .ref ya, .int mb, .ref ea, .ref wa])), (ea, .inl (cI, 24, .inl ef)), (wa, .inl (cI, 6, .inl wf))]) [0, 1, 2] rfl
          have hD9 := hD.sub (ws' := [(h0, .inr (3, [.int 2, .ref ta, .int zs, .int po, .int fa, .ref da, .ref ra, .ref la, .long we, .long le, .int pk, .int pm, .int co, .ref pa, .int pl, .ref xa, .ref ya, .int mb, .ref ea, .ref wa])), (ea, .inl (cI, 24, .inl ef)), (wa, .inl (cI, 6, .inl wf))]) [0, 1, 2] (by decide) rfl
          exact W.zret (v := 0) hx hb hr (by decide) (fun t ht hW => ⟨_, _, rfl, ⟨by first | rfl | (simp only [e_0, e_1]; try rfl), by first | rfl | (simp only [e_0, e_1]; try rfl)⟩, by rw [ht]; exact hP9, hD9, hS.F ht⟩) hS.2.2 dR_in_59
        · exact absurd c_5 (by decide)
      · have c_4 := xb_bi_t.mp c_4
        refine lv_iconst (v := 0) hx hb dR_in_27 (by decide) ?_
        refine lv_goto (tgt := 32) hx hb dR_in_28 (by decide) ?_
        refine va_put (D := (dC, dI)) (ci := 3) (v := .int 0) (ty := .int) (C := xR_R) (T := xF_R) (N := 20) hx hb hts xi_R xt_R xt_R_ok xn_R hown hK hP hD hS 0 rfl rfl 0 (by decide) (hts _ xk_646) (fun _ h9 => h9) rfl (by decide +kernel) rfl rfl (Nat.le_of_ble_eq_true rfl) dR_in_32 (fun H locs hP hD hS => ?_)
        have hP : va_P (dC, dI) classes [(h0, .inr (3, [.int 0, .ref ta, .int zs, .int po, .int fa, .ref da, .ref ra, .ref la, .long we, .long le, .int pk, .int pm, .int co, .ref pa, .int pl, .ref xa, .ref ya, .int mb, .ref ea, .ref wa])), (ea, .inl (cI, 24, .inl ef)), (wa, .inl (cI, 6, .inl wf))] H := hP
        have hD : va_D A [(h0, .inr (3, [.int 0, .ref ta, .int zs, .int po, .int fa, .ref da, .ref ra, .ref la, .long we, .long le, .int pk, .int pm, .int co, .ref pa, .int pl, .ref xa, .ref ya, .int mb, .ref ea, .ref wa])), (ea, .inl (cI, 24, .inl ef)), (wa, .inl (cI, 6, .inl wf))] := hD
        refine lv_aload_n hx hb dR_in_35 rfl (lv_at hl 0 rfl) ?_
        refine va_get (D := (dC, dI)) (ci := 3) (v := .int 0) (C := xR_R) (T := xF_R) (N := 20) hx hb hts xi_R hown hK hP 0 rfl rfl 0 (by decide) (hts _ xk_646) (fun _ h9 => h9) rfl dR_in_36 ?_
        refine lv_if_ne (tgt := 58) hx hb dR_in_39 (by decide) (fun c_6 => ?_) (fun c_6 => ?_)
        · exact absurd c_6 (by decide)
        · refine lv_aload_n hx hb dR_in_42 rfl (lv_at hl 0 rfl) ?_
          refine lv_iload_n hx hb dR_in_43 rfl (lv_at hl 1 rfl) ?_
          refine lv_iload_n hx hb dR_in_44 rfl (lv_at hl 2 rfl) ?_
          refine lv_i2l hx hb dR_in_45 rfl ?_
          refine lv_iload_n hx hb dR_in_46 rfl (lv_at hl 3 rfl) ?_
          refine lv_i2l hx hb dR_in_47 rfl ?_
          refine xb_rd (W.runV (C := "NailRulesModel") (As := [.int m1, .long x.toInt64, .long y.toInt64]) (rest := []) ⟨hx, hb, hml, hown, hts⟩ (cR_isWithin l E h0 ([.int 0, .ref ta, .int zs, .int po, .int fa, .ref da, .ref ra, .ref la, .long we, .long le, .int pk, .int pm, .int co, .ref pa, .int pl, .ref xa, .ref ya, .int mb, .ref ea, .ref wa]) ea ef wa wf m1 x.toInt64 y.toInt64 rfl rfl ((xp_mems (by assumption) m6).1) ((xp_mems (by assumption) m6).2.1) ((xp_mems (by assumption) m6).2.2.1) ((xp_mems (by assumption) m6).2.2.2.1) ((xp_mems (by assumption) m6).2.2.2.2)) (cwV 3 hts (xb_gi (List.forall_mem_cons.mpr ⟨xk_832, List.forall_mem_cons.mpr ⟨xk_834, List.forall_mem_cons.mpr ⟨xk_38, List.forall_mem_cons.mpr ⟨xk_45, List.forall_mem_cons.mpr ⟨xk_835, fun _ h => absurd h List.not_mem_nil⟩⟩⟩⟩⟩)) rfl rfl rfl (by decide +kernel) ⟨Nat.le_of_ble_eq_true rfl, Nat.le_of_ble_eq_true rfl⟩) ⟨fun _ _ _ _ q => q, va_recv hK hP (ci := 3) (q0 := 0) rfl rfl, fun U hU hW => ⟨rfl, xb_atS hAt hS hA0 hU hW, by rw [hU]; exact hP.sub (ws' := [(h0, .inr (3, [.int 0, .ref ta, .int zs, .int po, .int fa, .ref da, .ref ra, .ref la, .long we, .long le, .int pk, .int pm, .int co, .ref pa, .int pl, .ref xa, .ref ya, .int mb, .ref ea, .ref wa])), (ea, .inl (cI, 24, .inl ef)), (wa, .inl (cI, 6, .inl wf))]) [0, 1, 2] rfl⟩⟩ rfl rfl hl.1 rfl (lv_room (Nat.le_of_ble_eq_true rfl)) dR_in_48 ⟨Nat.zero_le _, Nat.zero_le _⟩) ?_
          refine lv_if_eq (tgt := 58) hx hb dR_in_51 (by decide) (fun c_7 => ?_) (fun c_7 => ?_)
          · have c_7 := xb_bi_f.mp c_7
            refine lv_iconst (v := 0) hx hb dR_in_58 (by decide) ?_
            have e_0 : gR_in ef wf mb m1 x y = false := (if_neg c_1).trans ((if_pos c_2).trans ((if_pos c_4).trans ((if_neg c_7).trans (rfl))))
            have e_1 : gR_in_0 ef wf mb m1 x y = (0 : Int32) := (if_neg c_1).trans ((if_pos c_2).trans ((if_pos c_4).trans ((if_neg c_7).trans (rfl))))
            have hP9 := hP.sub (ws' := [(h0, .inr (3, [.int 0, .ref ta, .int zs, .int po, .int fa, .ref da, .ref ra, .ref la, .long we, .long le, .int pk, .int pm, .int co, .ref pa, .int pl, .ref xa, .ref ya, .int mb, .ref ea, .ref wa])), (ea, .inl (cI, 24, .inl ef)), (wa, .inl (cI, 6, .inl wf))]) [0, 1, 2] rfl
            have hD9 := hD.sub (ws' := [(h0, .inr (3, [.int 0, .ref ta, .int zs, .int po, .int fa, .ref da, .ref ra, .ref la, .long we, .long le, .int pk, .int pm, .int co, .ref pa, .int pl, .ref xa, .ref ya, .int mb, .ref ea, .ref wa])), (ea, .inl (cI, 24, .inl ef)), (wa, .inl (cI, 6, .inl wf))]) [0, 1, 2] (by decide) rfl
            exact W.zret (v := 0) hx hb hr (by decide) (fun t ht hW => ⟨_, _, rfl, ⟨by first | rfl | (simp only [e_0, e_1]; try rfl), by first | rfl | (simp only [e_0, e_1]; try rfl)⟩, by rw [ht]; exact hP9, hD9, hS.F ht⟩) hS.2.2 dR_in_59
          · have c_7 := xb_bi_t.mp c_7
            refine lv_iconst (v := 1) hx hb dR_in_54 (by decide) ?_
            refine lv_goto (tgt := 59) hx hb dR_in_55 (by decide) ?_
            have e_0 : gR_in ef wf mb m1 x y = true := (if_neg c_1).trans ((if_pos c_2).trans ((if_pos c_4).trans ((if_pos c_7).trans (rfl))))
            have e_1 : gR_in_0 ef wf mb m1 x y = (0 : Int32) := (if_neg c_1).trans ((if_pos c_2).trans ((if_pos c_4).trans ((if_pos c_7).trans (rfl))))
            have hP9 := hP.sub (ws' := [(h0, .inr (3, [.int 0, .ref ta, .int zs, .int po, .int fa, .ref da, .ref ra, .ref la, .long we, .long le, .int pk, .int pm, .int co, .ref pa, .int pl, .ref xa, .ref ya, .int mb, .ref ea, .ref wa])), (ea, .inl (cI, 24, .inl ef)), (wa, .inl (cI, 6, .inl wf))]) [0, 1, 2] rfl
            have hD9 := hD.sub (ws' := [(h0, .inr (3, [.int 0, .ref ta, .int zs, .int po, .int fa, .ref da, .ref ra, .ref la, .long we, .long le, .int pk, .int pm, .int co, .ref pa, .int pl, .ref xa, .ref ya, .int mb, .ref ea, .ref wa])), (ea, .inl (cI, 24, .inl ef)), (wa, .inl (cI, 6, .inl wf))]) [0, 1, 2] (by decide) rfl
            exact W.zret (v := 1) hx hb hr (by decide) (fun t ht hW => ⟨_, _, rfl, ⟨by first | rfl | (simp only [e_0, e_1]; try rfl), by first | rfl | (simp only [e_0, e_1]; try rfl)⟩, by rw [ht]; exact hP9, hD9, hS.F ht⟩) hS.2.2 dR_in_59
  · have c_1 := xb_bi_t.mp c_1
    refine lv_iconst (v := 1) hx hb dR_in_9 (by decide) ?_
    refine lv_goto (tgt := 32) hx hb dR_in_10 (by decide) ?_
    refine va_put (D := (dC, dI)) (ci := 3) (v := .int 1) (ty := .int) (C := xR_R) (T := xF_R) (N := 20) hx hb hts xi_R xt_R xt_R_ok xn_R hown hK hP hD hS 0 rfl rfl 0 (by decide) (hts _ xk_646) (fun _ h9 => h9) rfl (by decide +kernel) rfl rfl (Nat.le_of_ble_eq_true rfl) dR_in_32 (fun H locs hP hD hS => ?_)
    have hP : va_P (dC, dI) classes [(h0, .inr (3, [.int 1, .ref ta, .int zs, .int po, .int fa, .ref da, .ref ra, .ref la, .long we, .long le, .int pk, .int pm, .int co, .ref pa, .int pl, .ref xa, .ref ya, .int mb, .ref ea, .ref wa])), (ea, .inl (cI, 24, .inl ef)), (wa, .inl (cI, 6, .inl wf))] H := hP
    have hD : va_D A [(h0, .inr (3, [.int 1, .ref ta, .int zs, .int po, .int fa, .ref da, .ref ra, .ref la, .long we, .long le, .int pk, .int pm, .int co, .ref pa, .int pl, .ref xa, .ref ya, .int mb, .ref ea, .ref wa])), (ea, .inl (cI, 24, .inl ef)), (wa, .inl (cI, 6, .inl wf))] := hD
    refine lv_aload_n hx hb dR_in_35 rfl (lv_at hl 0 rfl) ?_
    refine va_get (D := (dC, dI)) (ci := 3) (v := .int 1) (C := xR_R) (T := xF_R) (N := 20) hx hb hts xi_R hown hK hP 0 rfl rfl 0 (by decide) (hts _ xk_646) (fun _ h9 => h9) rfl dR_in_36 ?_
    refine lv_if_ne (tgt := 58) hx hb dR_in_39 (by decide) (fun c_8 => ?_) (fun c_8 => ?_)
    · refine lv_iconst (v := 0) hx hb dR_in_58 (by decide) ?_
      have e_0 : gR_in ef wf mb m1 x y = false := (if_pos c_1).trans (rfl)
      have e_1 : gR_in_0 ef wf mb m1 x y = (1 : Int32) := (if_pos c_1).trans (rfl)
      have hP9 := hP.sub (ws' := [(h0, .inr (3, [.int 1, .ref ta, .int zs, .int po, .int fa, .ref da, .ref ra, .ref la, .long we, .long le, .int pk, .int pm, .int co, .ref pa, .int pl, .ref xa, .ref ya, .int mb, .ref ea, .ref wa])), (ea, .inl (cI, 24, .inl ef)), (wa, .inl (cI, 6, .inl wf))]) [0, 1, 2] rfl
      have hD9 := hD.sub (ws' := [(h0, .inr (3, [.int 1, .ref ta, .int zs, .int po, .int fa, .ref da, .ref ra, .ref la, .long we, .long le, .int pk, .int pm, .int co, .ref pa, .int pl, .ref xa, .ref ya, .int mb, .ref ea, .ref wa])), (ea, .inl (cI, 24, .inl ef)), (wa, .inl (cI, 6, .inl wf))]) [0, 1, 2] (by decide) rfl
      exact W.zret (v := 0) hx hb hr (by decide) (fun t ht hW => ⟨_, _, rfl, ⟨by first | rfl | (simp only [e_0, e_1]; try rfl), by first | rfl | (simp only [e_0, e_1]; try rfl)⟩, by rw [ht]; exact hP9, hD9, hS.F ht⟩) hS.2.2 dR_in_59
    · exact absurd c_8 (by decide)
