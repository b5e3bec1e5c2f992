theorem xs_i1 {k : Int32} {n : Nat} (h : vp_in k n) : ¬ k < 0 := fun q => h (Or.inl q)
theorem xs_i2 {k : Int32} {wi : Nat} (hw : wi < 7) (h : vp_in k (xs_len.getD wi 0)) : k < nI (xs_len.getD wi 0) := by
  have hb : ∀ j, j < 7 → xs_len.getD j 0 < 2 ^ 31 := by decide
  have h31 := hb wi hw
  obtain ⟨j, hj, rfl⟩ := vp_in_of h h31
  exact nI_lt hj h31
def fS_coder  : Int32 := 0
set_option maxHeartbeats 4000000 in
set_option maxRecDepth 100000 in
theorem cS_coder (l : Launch) {s0 : State} {dC : Nat → ClassId} {dI : Nat → Nat → Nat} {cI cC cL cO : ClassId} (E : xb_Env l s0 dC dI (xtys cI cC cL cO)) {adK adV : Nat → Nat} (wi : Nat) (hV : xs_V s0 adK adV) (hw : wi < 7) : Met l yS_coder [.code yS_coder bS_coder 1 (some (.byte))] ({ frames := 0, cells := 0, slots := 0, locals := 0 }) (va_Pc [.ref (adK wi)] (fun U => xb_At s0 U ∧ va_P (dC, dI) classes [] U.heap)) (xb_R (some (.int fS_coder))) 0 0 (fun _ => False) := by
  refine Met.ofW (cc := bS_coder) (maxL := 1) (ret := (some (.byte))) (by decide) rfl ?_
  intro p e s m args below meth c s₁ B hml hv
  obtain ⟨rfl, hAt, hP⟩ := hv
  have hx := B.exec
  have hb := B.bytes
  have hr := B.returns
  have hts := xb_hts E hAt ([.ref (adK wi)] : List Value).toArray
  have hown : s.vm.findClass "java/lang/String" = some m.cls := findClass_of_methodNamed B.named
  have hlocks := B.notSynchronized
  have hK := xb_K E hAt
  have hl := lv_entry ([.ref (adK wi)]) (n := 1) (Nat.le_of_ble_eq_true rfl)
  rw [lg_entry_eq]
  generalize (lg_sl ([.ref (adK wi)]) ++ List.replicate (1 - (lg_sl ([.ref (adK wi)])).length) Slot.unset).toArray = ls at hl ⊢
  have hl : lv_has ls 1 [(0, .ref (adK wi))] := hl
  refine va_gets (A := xa_A s0) hx hb (xs_C hV hAt) va_S.rf hown (hts _ xk_213) (fun _ h9 => h9) dS_coder_0 ?_
  refine lv_if_eq (tgt := 13) hx hb dS_coder_3 (by decide) (fun c_1 => ?_) (fun c_1 => ?_)
  · exact absurd c_1 (by decide)
  · refine lv_aload_n hx hb dS_coder_6 rfl (lv_at hl 0 rfl) ?_
    refine vk_getf (A := xa_A s0) hx hb ((xs_S hV hAt).1 wi hw).2.1 va_S.rf hown (hts _ xk_862) (fun _ h9 => h9) dS_coder_7 ?_
    refine lv_goto (tgt := 14) hx hb dS_coder_10 (by decide) ?_
    have e_f : fS_coder = 0 := rfl
    exact W.zret (v := 0) hx hb hr (rfl) (fun t ht hW => ⟨by rw [e_f], ht⟩) (fun _ h => by cases h) dS_coder_14

def fS_isLatin1  : Bool := true
set_option maxHeartbeats 4000000 in
set_option maxRecDepth 100000 in
theorem cS_isLatin1 (l : Launch) {s0 : State} {dC : Nat → ClassId} {dI : Nat → Nat → Nat} {cI cC cL cO : ClassId} (E : xb_Env l s0 dC dI (xtys cI cC cL cO)) {adK adV : Nat → Nat} (wi : Nat) (hV : xs_V s0 adK adV) (hw : wi < 7) : Met l yS_isLatin1 [.code yS_isLatin1 bS_isLatin1 1 (some (.boolean))] ({ frames := 0, cells := 0, slots := 0, locals := 0 }) (va_Pc [.ref (adK wi)] (fun U => xb_At s0 U ∧ va_P (dC, dI) classes [] U.heap)) (xb_R (some (.int (xb_bi fS_isLatin1)))) 0 0 (fun _ => False) := by
  refine Met.ofW (cc := bS_isLatin1) (maxL := 1) (ret := (some (.boolean))) (by decide) rfl ?_
  intro p e s m args below meth c s₁ B hml hv
  obtain ⟨rfl, hAt, hP⟩ := hv
  have hx := B.exec
  have hb := B.bytes
  have hr := B.returns
  have hts := xb_hts E hAt ([.ref (adK wi)] : List Value).toArray
  have hown : s.vm.findClass "java/lang/String" = some m.cls := findClass_of_methodNamed B.named
  have hlocks := B.notSynchronized
  have hK := xb_K E hAt
  have hl := lv_entry ([.ref (adK wi)]) (n := 1) (Nat.le_of_ble_eq_true rfl)
  rw [lg_entry_eq]
  generalize (lg_sl ([.ref (adK wi)]) ++ List.replicate (1 - (lg_sl ([.ref (adK wi)])).length) Slot.unset).toArray = ls at hl ⊢
  have hl : lv_has ls 1 [(0, .ref (adK wi))] := hl
  refine va_gets (A := xa_A s0) hx hb (xs_C hV hAt) va_S.rf hown (hts _ xk_213) (fun _ h9 => h9) dS_isLatin1_0 ?_
  refine lv_if_eq (tgt := 17) hx hb dS_isLatin1_3 (by decide) (fun c_1 => ?_) (fun c_1 => ?_)
  · exact absurd c_1 (by decide)
  · refine lv_aload_n hx hb dS_isLatin1_6 rfl (lv_at hl 0 rfl) ?_
    refine vk_getf (A := xa_A s0) hx hb ((xs_S hV hAt).1 wi hw).2.1 va_S.rf hown (hts _ xk_862) (fun _ h9 => h9) dS_isLatin1_7 ?_
    refine lv_if_ne (tgt := 17) hx hb dS_isLatin1_10 (by decide) (fun c_2 => ?_) (fun c_2 => ?_)
    · exact absurd c_2 (by decide)
    · refine lv_iconst (v := 1) hx hb dS_isLatin1_13 (by decide) ?_
      refine lv_goto (tgt := 18) hx hb dS_isLatin1_14 (by decide) ?_
      have e_f : fS_isLatin1 = true := rfl
      exact W.zret (v := 1) hx hb hr (by decide) (fun t ht hW => ⟨by rw [e_f]; try rfl, ht⟩) (fun _ h => by cases h) dS_isLatin1_18

def fS_length (wi : Nat) : Int32 := (nI (xs_len.getD wi 0)) >>> (fS_coder &&& 31)
set_option maxHeartbeats 4000000 in
set_option maxRecDepth 100000 in
theorem cS_length (l : Launch) {s0 : State} {dC : Nat → ClassId} {dI : Nat → Nat → Nat} {cI cC cL cO : ClassId} (E : xb_Env l s0 dC dI (xtys cI cC cL cO)) {adK adV : Nat → Nat} (wi : Nat) (hV : xs_V s0 adK adV) (hw : wi < 7) : Met l yS_length [.code yS_length bS_length 1 (some (.int))] ({ frames := 1, cells := 0, slots := 0, locals := 20 }) (va_Pc [.ref (adK wi)] (fun U => xb_At s0 U ∧ va_P (dC, dI) classes [] U.heap)) (xb_R (some (.int (fS_length wi)))) 0 0 (fun _ => False) := by
  refine Met.ofW (cc := bS_length) (maxL := 1) (ret := (some (.int))) (by decide) rfl ?_
  intro p e s m args below meth c s₁ B hml hv
  obtain ⟨rfl, hAt, hP⟩ := hv
  have hx := B.exec
  have hb := B.bytes
  have hr := B.returns
  have hts := xb_hts E hAt ([.ref (adK wi)] : List Value).toArray
  have hown : s.vm.findClass "java/lang/String" = some m.cls := findClass_of_methodNamed B.named
  have hlocks := B.notSynchronized
  have hK := xb_K E hAt
  have hl := lv_entry ([.ref (adK wi)]) (n := 1) (Nat.le_of_ble_eq_true rfl)
  rw [lg_entry_eq]
  generalize (lg_sl ([.ref (adK wi)]) ++ List.replicate (1 - (lg_sl ([.ref (adK wi)])).length) Slot.unset).toArray = ls at hl ⊢
  have hl : lv_has ls 1 [(0, .ref (adK wi))] := hl
  refine lv_aload_n hx hb dS_length_0 rfl (lv_at hl 0 rfl) ?_
  refine vk_getf (A := xa_A s0) hx hb ((xs_S hV hAt).1 wi hw).2.2.1 va_S.rf hown (hts _ xk_861) (fun _ h9 => h9) dS_length_1 ?_
  refine va_tlen (A := xa_A s0) (v := nI (xs_len.getD wi 0)) hx hb ((xs_S hV hAt).1 wi hw).2.2.2 va_S.rf rfl dS_length_4 ?_
  refine lv_aload_n hx hb dS_length_5 rfl (lv_at hl 0 rfl) ?_
  refine xb_rd (W.runV (C := "java/lang/String") (As := []) (rest := [.int (nI (xs_len.getD wi 0))]) ⟨hx, hb, hml, hown, hts⟩ (cS_coder l E wi (hV) (hw)) (cwV 0 hts (xb_gi (List.forall_mem_cons.mpr ⟨xk_209, List.forall_mem_cons.mpr ⟨xk_210, List.forall_mem_cons.mpr ⟨xk_211, List.forall_mem_cons.mpr ⟨xk_46, List.forall_mem_cons.mpr ⟨xk_212, fun _ h => absurd h List.not_mem_nil⟩⟩⟩⟩⟩)) rfl rfl rfl (by decide +kernel) ⟨Nat.le_of_ble_eq_true rfl, Nat.le_of_ble_eq_true rfl⟩) ⟨fun _ _ _ _ q => q, xs_rc (U := s) hV hAt (va_S.rf : va_S (xa_A s0) s.heap s.heap []) (fun _ h => h) (hw), fun U hU hW => ⟨rfl, xb_at0 hAt hU hW, fun k q h => by simp at h⟩⟩ rfl rfl hl.1 rfl (lv_room (Nat.le_of_ble_eq_true rfl)) dS_length_6 ⟨Nat.zero_le _, Nat.zero_le _⟩) ?_
  refine lv_ishr hx hb dS_length_9 ?_
  have e_f : fS_length wi = (nI (xs_len.getD wi 0)) >>> (fS_coder &&& 31) := rfl
  exact W.iret (v := ((nI (xs_len.getD wi 0)) >>> (fS_coder &&& 31))) hx hb hr (fun t ht hW => ⟨by rw [e_f], ht⟩) (fun _ h => by cases h) dS_length_10

def fP_checkIndex_n (i : Int32) : Int32 := i
set_option maxHeartbeats 4000000 in
set_option maxRecDepth 100000 in
theorem cP_checkIndex_n (l : Launch) {s0 : State} {dC : Nat → ClassId} {dI : Nat → Nat → Nat} {cI cC cL cO : ClassId} (E : xb_Env l s0 dC dI (xtys cI cC cL cO)) (i : Int32) (n2 : Int32) (h1 : ¬ i < 0) (h2 : i < n2) : Met l yP_checkIndex [.code yP_checkIndex bP_checkIndex 3 (some (.int))] ({ frames := 0, cells := 0, slots := 0, locals := 0 }) (va_Pc [.int i, .int n2, .null] (fun U => xb_At s0 U ∧ va_P (dC, dI) classes [] U.heap)) (xb_R (some (.int (fP_checkIndex_n i)))) 0 0 (fun _ => False) := by
  refine Met.ofW (cc := bP_checkIndex) (maxL := 3) (ret := (some (.int))) (by decide) rfl ?_
  intro p e s m args below meth c s₁ B hml hv
  obtain ⟨rfl, hAt, hP⟩ := hv
  have hx := B.exec
  have hb := B.bytes
  have hr := B.returns
  have hts := xb_hts E hAt ([.int i, .int n2, .null] : List Value).toArray
  have hown : s.vm.findClass "jdk/internal/util/Preconditions" = some m.cls := findClass_of_methodNamed B.named
  have hlocks := B.notSynchronized
  have hK := xb_K E hAt
  have hl := lv_entry ([.int i, .int n2, .null]) (n := 3) (Nat.le_of_ble_eq_true rfl)
  rw [lg_entry_eq]
  generalize (lg_sl ([.int i, .int n2, .null]) ++ List.replicate (3 - (lg_sl ([.int i, .int n2, .null])).length) Slot.unset).toArray = ls at hl ⊢
  have hl : lv_has ls 3 [(0, .int i), (1, .int n2), (2, .null)] := hl
  refine lv_iload_n hx hb dP_checkIndex_0 rfl (lv_at hl 0 rfl) ?_
  refine lv_if_lt (tgt := 9) hx hb dP_checkIndex_1 (by decide) (fun c_1 => ?_) (fun c_1 => ?_)
  · contradiction
  · refine lv_iload_n hx hb dP_checkIndex_4 rfl (lv_at hl 0 rfl) ?_
    refine lv_iload_n hx hb dP_checkIndex_5 rfl (lv_at hl 1 rfl) ?_
    refine lv_icmp_lt (tgt := 16) hx hb dP_checkIndex_6 (by decide) (fun c_2 => ?_) (fun c_2 => ?_)
    · refine lv_iload_n hx hb dP_checkIndex_16 rfl (lv_at hl 0 rfl) ?_
      have e_f : fP_checkIndex_n i = i := rfl
      exact W.iret (v := i) hx hb hr (fun t ht hW => ⟨by rw [e_f], ht⟩) (fun _ h => by cases h) dP_checkIndex_17
    · contradiction

def fP_checkIndex (i : Int32) : Int32 := i
set_option maxHeartbeats 4000000 in
set_option maxRecDepth 100000 in
theorem cP_checkIndex (l : Launch) {s0 : State} {dC : Nat → ClassId} {dI : Nat → Nat → Nat} {cI cC cL cO : ClassId} (E : xb_Env l s0 dC dI (xtys cI cC cL cO)) (i : Int32) (n2 : Int32) (fz : Nat) (h1 : ¬ i < 0) (h2 : i < n2) : Met l yP_checkIndex [.code yP_checkIndex bP_checkIndex 3 (some (.int))] ({ frames := 0, cells := 0, slots := 0, locals := 0 }) (va_Pc [.int i, .int n2, .ref fz] (fun U => xb_At s0 U ∧ va_P (dC, dI) classes [] U.heap)) (xb_R (some (.int (fP_checkIndex i)))) 0 0 (fun _ => False) := by
  refine Met.ofW (cc := bP_checkIndex) (maxL := 3) (ret := (some (.int))) (by decide) rfl ?_
  intro p e s m args below meth c s₁ B hml hv
  obtain ⟨rfl, hAt, hP⟩ := hv
  have hx := B.exec
  have hb := B.bytes
  have hr := B.returns
  have hts := xb_hts E hAt ([.int i, .int n2, .ref fz] : List Value).toArray
  have hown : s.vm.findClass "jdk/internal/util/Preconditions" = some m.cls := findClass_of_methodNamed B.named
  have hlocks := B.notSynchronized
  have hK := xb_K E hAt
  have hl := lv_entry ([.int i, .int n2, .ref fz]) (n := 3) (Nat.le_of_ble_eq_true rfl)
  rw [lg_entry_eq]
  generalize (lg_sl ([.int i, .int n2, .ref fz]) ++ List.replicate (3 - (lg_sl ([.int i, .int n2, .ref fz])).length) Slot.unset).toArray = ls at hl ⊢
  have hl : lv_has ls 3 [(0, .int i), (1, .int n2), (2, .ref fz)] := hl
  refine lv_iload_n hx hb dP_checkIndex_0 rfl (lv_at hl 0 rfl) ?_
  refine lv_if_lt (tgt := 9) hx hb dP_checkIndex_1 (by decide) (fun c_1 => ?_) (fun c_1 => ?_)
  · contradiction
  · refine lv_iload_n hx hb dP_checkIndex_4 rfl (lv_at hl 0 rfl) ?_
    refine lv_iload_n hx hb dP_checkIndex_5 rfl (lv_at hl 1 rfl) ?_
    refine lv_icmp_lt (tgt := 16) hx hb dP_checkIndex_6 (by decide) (fun c_2 => ?_) (fun c_2 => ?_)
    · refine lv_iload_n hx hb dP_checkIndex_16 rfl (lv_at hl 0 rfl) ?_
      have e_f : fP_checkIndex i = i := rfl
      exact W.iret (v := i) hx hb hr (fun t ht hW => ⟨by rw [e_f], ht⟩) (fun _ h => by cases h) dP_checkIndex_17
    · contradiction

def fO_checkIndex (i : Int32) : Int32 := fP_checkIndex_n i
set_option maxHeartbeats 4000000 in
set_option maxRecDepth 100000 in
theorem cO_checkIndex (l : Launch) {s0 : State} {dC : Nat → ClassId} {dI : Nat → Nat → Nat} {cI cC cL cO : ClassId} (E : xb_Env l s0 dC dI (xtys cI cC cL cO)) (i : Int32) (n2 : Int32) (h1 : ¬ i < 0) (h2 : i < n2) : Met l yO_checkIndex [.code yO_checkIndex bO_checkIndex 2 (some (.int))] ({ frames := 1, cells := 0, slots := 0, locals := 22 }) (va_Pc [.int i, .int n2] (fun U => xb_At s0 U ∧ va_P (dC, dI) classes [] U.heap)) (xb_R (some (.int (fO_checkIndex i)))) 0 0 (fun _ => False) := by
  refine Met.ofW (cc := bO_checkIndex) (maxL := 2) (ret := (some (.int))) (by decide) rfl ?_
  intro p e s m args below meth c s₁ B hml hv
  obtain ⟨rfl, hAt, hP⟩ := hv
  have hx := B.exec
  have hb := B.bytes
  have hr := B.returns
  have hts := xb_hts E hAt ([.int i, .int n2] : List Value).toArray
  have hown : s.vm.findClass "java/util/Objects" = some m.cls := findClass_of_methodNamed B.named
  have hlocks := B.notSynchronized
  have hK := xb_K E hAt
  have hl := lv_entry ([.int i, .int n2]) (n := 2) (Nat.le_of_ble_eq_true rfl)
  rw [lg_entry_eq]
  generalize (lg_sl ([.int i, .int n2]) ++ List.replicate (2 - (lg_sl ([.int i, .int n2])).length) Slot.unset).toArray = ls at hl ⊢
  have hl : lv_has ls 2 [(0, .int i), (1, .int n2)] := hl
  refine lv_iload_n hx hb dO_checkIndex_0 rfl (lv_at hl 0 rfl) ?_
  refine lv_iload_n hx hb dO_checkIndex_1 rfl (lv_at hl 1 rfl) ?_
  refine lv_null hx hb dO_checkIndex_2 ?_
  refine xb_rdN (va_runS (As := [.int i, .int n2, .null]) (rest := []) ⟨hx, hb, hml, hown, hts⟩ (cP_checkIndex_n l E i n2 (h1) (h2)) (va_cwS 3 hts (xb_gi (List.forall_mem_cons.mpr ⟨xk_605, List.forall_mem_cons.mpr ⟨xk_232, List.forall_mem_cons.mpr ⟨xk_48, List.forall_mem_cons.mpr ⟨xk_233, fun _ h => absurd h List.not_mem_nil⟩⟩⟩⟩)) rfl rfl rfl (by decide +kernel) ⟨Nat.le_of_ble_eq_true rfl, Nat.le_of_ble_eq_true rfl⟩) ⟨fun _ _ _ _ q => q, fun U hU hW => ⟨rfl, xb_at0 hAt hU hW, fun k q h => by simp at h⟩⟩ rfl rfl hl.1 rfl (lv_room (Nat.le_of_ble_eq_true rfl)) dO_checkIndex_3 ⟨Nat.zero_le _, Nat.zero_le _⟩) ?_
  have e_f : fO_checkIndex i = fP_checkIndex_n i := rfl
  exact W.iret (v := (fP_checkIndex_n i)) hx hb hr (fun t ht hW => ⟨by rw [e_f], ht⟩) (fun _ h => by cases h) dO_checkIndex_6

set_option maxHeartbeats 4000000 in
set_option maxRecDepth 100000 in
theorem cS_checkIndex (l : Launch) {s0 : State} {dC : Nat → ClassId} {dI : Nat → Nat → Nat} {cI cC cL cO : ClassId} (E : xb_Env l s0 dC dI (xtys cI cC cL cO)) {adK adV : Nat → Nat} (i : Int32) (n2 : Int32) (hV : xs_V s0 adK adV) (h1 : ¬ i < 0) (h2 : i < n2) : Met l yS_checkIndex [.code yS_checkIndex bS_checkIndex 2 none] ({ frames := 1, cells := 0, slots := 0, locals := 22 }) (va_Pc [.int i, .int n2] (fun U => xb_At s0 U ∧ va_P (dC, dI) classes [] U.heap)) (xb_R (none)) 0 0 (fun _ => False) := by
  refine Met.ofW (cc := bS_checkIndex) (maxL := 2) (ret := none) (by decide) rfl ?_
  intro p e s m args below meth c s₁ B hml hv
  obtain ⟨rfl, hAt, hP⟩ := hv
  have hx := B.exec
  have hb := B.bytes
  have hr := B.returns
  have hts := xb_hts E hAt ([.int i, .int n2] : List Value).toArray
  have hown : s.vm.findClass "java/lang/String" = some m.cls := findClass_of_methodNamed B.named
  have hlocks := B.notSynchronized
  have hK := xb_K E hAt
  have hl := lv_entry ([.int i, .int n2]) (n := 2) (Nat.le_of_ble_eq_true rfl)
  rw [lg_entry_eq]
  generalize (lg_sl ([.int i, .int n2]) ++ List.replicate (2 - (lg_sl ([.int i, .int n2])).length) Slot.unset).toArray = ls at hl ⊢
  have hl : lv_has ls 2 [(0, .int i), (1, .int n2)] := hl
  refine lv_iload_n hx hb dS_checkIndex_0 rfl (lv_at hl 0 rfl) ?_
  refine lv_iload_n hx hb dS_checkIndex_1 rfl (lv_at hl 1 rfl) ?_
  rcases xs_F hV hAt with hq | ⟨fz, hq⟩
  · refine va_gets (A := xa_A s0) hx hb hq va_S.rf hown (hts _ xk_229) (fun _ h9 => h9) dS_checkIndex_2 ?_
    refine xb_rdN (va_runS (As := [.int i, .int n2, .null]) (rest := []) ⟨hx, hb, hml, hown, hts⟩ (cP_checkIndex_n l E i n2 (h1) (h2)) (va_cwS 3 hts (xb_gi (List.forall_mem_cons.mpr ⟨xk_231, List.forall_mem_cons.mpr ⟨xk_232, List.forall_mem_cons.mpr ⟨xk_48, List.forall_mem_cons.mpr ⟨xk_233, fun _ h => absurd h List.not_mem_nil⟩⟩⟩⟩)) rfl rfl rfl (by decide +kernel) ⟨Nat.le_of_ble_eq_true rfl, Nat.le_of_ble_eq_true rfl⟩) ⟨fun _ _ _ _ q => q, fun U hU hW => ⟨rfl, xb_at0 hAt hU hW, fun k q h => by simp at h⟩⟩ rfl rfl hl.1 rfl (lv_room (Nat.le_of_ble_eq_true rfl)) dS_checkIndex_5 ⟨Nat.zero_le _, Nat.zero_le _⟩) ?_
    refine lv_pop hx hb dS_checkIndex_8 rfl ?_
    exact W.vret hx hb hr (fun t ht hW => ⟨rfl, ht⟩) (fun _ h => by cases h) dS_checkIndex_9
  · refine va_gets (A := xa_A s0) hx hb hq va_S.rf hown (hts _ xk_229) (fun _ h9 => h9) dS_checkIndex_2 ?_
    refine xb_rdN (va_runS (As := [.int i, .int n2, .ref fz]) (rest := []) ⟨hx, hb, hml, hown, hts⟩ (cP_checkIndex l E i n2 fz (h1) (h2)) (va_cwS 3 hts (xb_gi (List.forall_mem_cons.mpr ⟨xk_231, List.forall_mem_cons.mpr ⟨xk_232, List.forall_mem_cons.mpr ⟨xk_48, List.forall_mem_cons.mpr ⟨xk_233, fun _ h => absurd h List.not_mem_nil⟩⟩⟩⟩)) rfl rfl rfl (by decide +kernel) ⟨Nat.le_of_ble_eq_true rfl, Nat.le_of_ble_eq_true rfl⟩) ⟨fun _ _ _ _ q => q, fun U hU hW => ⟨rfl, xb_at0 hAt hU hW, fun k q h => by simp at h⟩⟩ rfl rfl hl.1 rfl (lv_room (Nat.le_of_ble_eq_true rfl)) dS_checkIndex_5 ⟨Nat.zero_le _, Nat.zero_le _⟩) ?_
    refine lv_pop hx hb dS_checkIndex_8 rfl ?_
    exact W.vret hx hb hr (fun t ht hW => ⟨rfl, ht⟩) (fun _ h => by cases h) dS_checkIndex_9

def fSL_charAt (wi : Nat) (k : Int32) : Int32 := ((((xs_byt.getD wi []).getD k.toNatClampNeg 0) &&& 255).toUInt32 % 65536).toInt32
set_option maxHeartbeats 4000000 in
set_option maxRecDepth 100000 in
theorem cSL_charAt (l : Launch) {s0 : State} {dC : Nat → ClassId} {dI : Nat → Nat → Nat} {cI cC cL cO : ClassId} (E : xb_Env l s0 dC dI (xtys cI cC cL cO)) {adK adV : Nat → Nat} (wi : Nat) (k : Int32) (hV : xs_V s0 adK adV) (hw : wi < 7) (hk : vp_in k (xs_len.getD wi 0)) : Met l ySL_charAt [.code ySL_charAt bSL_charAt 2 (some (.char))] ({ frames := 2, cells := 0, slots := 0, locals := 43 }) (va_Pc [.ref (adV wi), .int k] (fun U => xb_At s0 U ∧ va_P (dC, dI) classes [] U.heap)) (xb_R (some (.int (fSL_charAt wi k)))) 0 0 (fun _ => False) := by
  refine Met.ofW (cc := bSL_charAt) (maxL := 2) (ret := (some (.char))) (by decide) rfl ?_
  intro p e s m args below meth c s₁ B hml hv
  obtain ⟨rfl, hAt, hP⟩ := hv
  have hx := B.exec
  have hb := B.bytes
  have hr := B.returns
  have hts := xb_hts E hAt ([.ref (adV wi), .int k] : List Value).toArray
  have hown : s.vm.findClass "java/lang/StringLatin1" = some m.cls := findClass_of_methodNamed B.named
  have hlocks := B.notSynchronized
  have hK := xb_K E hAt
  have hl := lv_entry ([.ref (adV wi), .int k]) (n := 2) (Nat.le_of_ble_eq_true rfl)
  rw [lg_entry_eq]
  generalize (lg_sl ([.ref (adV wi), .int k]) ++ List.replicate (2 - (lg_sl ([.ref (adV wi), .int k])).length) Slot.unset).toArray = ls at hl ⊢
  have hl : lv_has ls 2 [(0, .ref (adV wi)), (1, .int k)] := hl
  refine lv_iload_n hx hb dSL_charAt_0 rfl (lv_at hl 1 rfl) ?_
  refine lv_aload_n hx hb dSL_charAt_1 rfl (lv_at hl 0 rfl) ?_
  refine va_tlen (A := xa_A s0) (v := nI (xs_len.getD wi 0)) hx hb ((xs_S hV hAt).1 wi hw).2.2.2 va_S.rf rfl dSL_charAt_2 ?_
  refine xb_rdN (va_runS (As := [.int k, .int (nI (xs_len.getD wi 0))]) (rest := []) ⟨hx, hb, hml, hown, hts⟩ (cS_checkIndex l E k (nI (xs_len.getD wi 0)) (hV) (xs_i1 hk) (xs_i2 hw hk)) (va_cwS 2 hts (xb_gi (List.forall_mem_cons.mpr ⟨xk_226, List.forall_mem_cons.mpr ⟨xk_227, List.forall_mem_cons.mpr ⟨xk_46, List.forall_mem_cons.mpr ⟨xk_228, fun _ h => absurd h List.not_mem_nil⟩⟩⟩⟩)) rfl rfl rfl (by decide +kernel) ⟨Nat.le_of_ble_eq_true rfl, Nat.le_of_ble_eq_true rfl⟩) ⟨fun _ _ _ _ q => q, fun U hU hW => ⟨rfl, xb_at0 hAt hU hW, fun k q h => by simp at h⟩⟩ rfl rfl hl.1 rfl (lv_room (Nat.le_of_ble_eq_true rfl)) dSL_charAt_3 ⟨Nat.zero_le _, Nat.zero_le _⟩) ?_
  refine lv_aload_n hx hb dSL_charAt_6 rfl (lv_at hl 0 rfl) ?_
  refine lv_iload_n hx hb dSL_charAt_7 rfl (lv_at hl 1 rfl) ?_
  refine va_tb (A := xa_A s0) (v := .int ((xs_byt.getD wi []).getD k.toNatClampNeg 0)) hx hb ((xs_S hV hAt).1 wi hw).2.2.2 va_S.rf hk rfl dSL_charAt_8 ?_
  refine lv_sipush (v := 255) hx hb dSL_charAt_9 (by decide) ?_
  refine lv_iand hx hb dSL_charAt_12 ?_
  refine lv_i2c hx hb dSL_charAt_13 rfl ?_
  have e_f : fSL_charAt wi k = ((((xs_byt.getD wi []).getD k.toNatClampNeg 0) &&& 255).toUInt32 % 65536).toInt32 := rfl
  exact W.zret (v := (((((xs_byt.getD wi []).getD k.toNatClampNeg 0) &&& 255).toUInt32 % 65536).toInt32)) hx hb hr (pk_nc _) (fun t ht hW => ⟨by rw [e_f], ht⟩) (fun _ h => by cases h) dSL_charAt_14

def fS_charAt (wi : Nat) (k : Int32) : Int32 := fSL_charAt wi k
set_option maxHeartbeats 4000000 in
set_option maxRecDepth 100000 in
theorem cS_charAt (l : Launch) {s0 : State} {dC : Nat → ClassId} {dI : Nat → Nat → Nat} {cI cC cL cO : ClassId} (E : xb_Env l s0 dC dI (xtys cI cC cL cO)) {adK adV : Nat → Nat} (wi : Nat) (k : Int32) (hV : xs_V s0 adK adV) (hw : wi < 7) (hk : vp_in k (xs_len.getD wi 0)) : Met l yS_charAt [.code yS_charAt bS_charAt 2 (some (.char))] ({ frames := 3, cells := 0, slots := 0, locals := 64 }) (va_Pc [.ref (adK wi), .int k] (fun U => xb_At s0 U ∧ va_P (dC, dI) classes [] U.heap)) (xb_R (some (.int (fS_charAt wi k)))) 0 0 (fun _ => False) := by
  refine Met.ofW (cc := bS_charAt) (maxL := 2) (ret := (some (.char))) (by decide) rfl ?_
  intro p e s m args below meth c s₁ B hml hv
  obtain ⟨rfl, hAt, hP⟩ := hv
  have hx := B.exec
  have hb := B.bytes
  have hr := B.returns
  have hts := xb_hts E hAt ([.ref (adK wi), .int k] : List Value).toArray
  have hown : s.vm.findClass "java/lang/String" = some m.cls := findClass_of_methodNamed B.named
  have hlocks := B.notSynchronized
  have hK := xb_K E hAt
  have hl := lv_entry ([.ref (adK wi), .int k]) (n := 2) (Nat.le_of_ble_eq_true rfl)
  rw [lg_entry_eq]
  generalize (lg_sl ([.ref (adK wi), .int k]) ++ List.replicate (2 - (lg_sl ([.ref (adK wi), .int k])).length) Slot.unset).toArray = ls at hl ⊢
  have hl : lv_has ls 2 [(0, .ref (adK wi)), (1, .int k)] := hl
  refine lv_aload_n hx hb dS_charAt_0 rfl (lv_at hl 0 rfl) ?_
  refine xb_rd (W.runV (C := "java/lang/String") (As := []) (rest := []) ⟨hx, hb, hml, hown, hts⟩ (cS_isLatin1 l E wi (hV) (hw)) (cwV 0 hts (xb_gi (List.forall_mem_cons.mpr ⟨xk_219, List.forall_mem_cons.mpr ⟨xk_220, List.forall_mem_cons.mpr ⟨xk_221, List.forall_mem_cons.mpr ⟨xk_46, List.forall_mem_cons.mpr ⟨xk_222, fun _ h => absurd h List.not_mem_nil⟩⟩⟩⟩⟩)) rfl rfl rfl (by decide +kernel) ⟨Nat.le_of_ble_eq_true rfl, Nat.le_of_ble_eq_true rfl⟩) ⟨fun _ _ _ _ q => q, xs_rc (U := s) hV hAt (va_S.rf : va_S (xa_A s0) s.heap s.heap []) (fun _ h => h) (hw), fun U hU hW => ⟨rfl, xb_at0 hAt hU hW, fun k q h => by simp at h⟩⟩ rfl rfl hl.1 rfl (lv_room (Nat.le_of_ble_eq_true rfl)) dS_charAt_1 ⟨Nat.zero_le _, Nat.zero_le _⟩) ?_
  refine lv_if_eq (tgt := 16) hx hb dS_charAt_4 (by decide) (fun c_1 => ?_) (fun c_1 => ?_)
  · have c_1 := xb_bi_f.mp c_1
    exact absurd (show fS_isLatin1 = true from rfl) (by assumption)
  · have c_1 := xb_bi_t.mp c_1
    refine lv_aload_n hx hb dS_charAt_7 rfl (lv_at hl 0 rfl) ?_
    refine vk_getf (A := xa_A s0) hx hb ((xs_S hV hAt).1 wi hw).2.2.1 va_S.rf hown (hts _ xk_861) (fun _ h9 => h9) dS_charAt_8 ?_
    refine lv_iload_n hx hb dS_charAt_11 rfl (lv_at hl 1 rfl) ?_
    refine xb_rdN (va_runS (As := [.ref (adV wi), .int k]) (rest := []) ⟨hx, hb, hml, hown, hts⟩ (cSL_charAt l E wi k (hV) (hw) (hk)) (va_cwS 2 hts (xb_gi (List.forall_mem_cons.mpr ⟨xk_223, List.forall_mem_cons.mpr ⟨xk_224, List.forall_mem_cons.mpr ⟨xk_47, List.forall_mem_cons.mpr ⟨xk_225, fun _ h => absurd h List.not_mem_nil⟩⟩⟩⟩)) rfl rfl rfl (by decide +kernel) ⟨Nat.le_of_ble_eq_true rfl, Nat.le_of_ble_eq_true rfl⟩) ⟨fun _ _ _ _ q => q, fun U hU hW => ⟨rfl, xb_at0 hAt hU hW, fun k q h => by simp at h⟩⟩ rfl rfl hl.1 rfl (lv_room (Nat.le_of_ble_eq_true rfl)) dS_charAt_12 ⟨Nat.zero_le _, Nat.zero_le _⟩) ?_
    have e_f : fS_charAt wi k = fSL_charAt wi k := rfl
    exact W.zret (v := (fSL_charAt wi k)) hx hb hr (by unfold fSL_charAt; exact pk_nc _) (fun t ht hW => ⟨by rw [e_f], ht⟩) (fun _ h => by cases h) dS_charAt_15

def fN_wordOf (what : Int32) : Nat := if what = 0 then (0) else (if what = 1 then (1) else (if what = 2 then (2) else (if what = 3 then (3) else (if what = 4 then (4) else (if what = 5 then (5) else (6))))))
set_option maxHeartbeats 4000000 in
set_option maxRecDepth 100000 in
theorem cN_wordOf (l : Launch) {s0 : State} {dC : Nat → ClassId} {dI : Nat → Nat → Nat} {cI cC cL cO : ClassId} (E : xb_Env l s0 dC dI (xtys cI cC cL cO)) {adK adV : Nat → Nat} (what : Int32) (hV : xs_V s0 adK adV) : Met l yN_wordOf [.code yN_wordOf bN_wordOf 1 (some (.object "java/lang/String"))] ({ frames := 0, cells := 0, slots := 0, locals := 0 }) (va_Pc [.int what] (fun U => xb_At s0 U ∧ va_P (dC, dI) classes [] U.heap)) (xb_R (some (.ref (adK (fN_wordOf what))))) 0 0 (fun _ => False) := by
  refine Met.ofW (cc := bN_wordOf) (maxL := 1) (ret := (some (.object "java/lang/String"))) (by decide) rfl ?_
  intro p e s m args below meth c s₁ B hml hv
  obtain ⟨rfl, hAt, hP⟩ := hv
  have hx := B.exec
  have hb := B.bytes
  have hr := B.returns
  have hts := xb_hts E hAt ([.int what] : List Value).toArray
  have hown : s.vm.findClass "NailRules" = some m.cls := findClass_of_methodNamed B.named
  have hlocks := B.notSynchronized
  have hK := xb_K E hAt
  have hl := lv_entry ([.int what]) (n := 1) (Nat.le_of_ble_eq_true rfl)
  rw [lg_entry_eq]
  generalize (lg_sl ([.int what]) ++ List.replicate (1 - (lg_sl ([.int what])).length) Slot.unset).toArray = ls at hl ⊢
  have hl : lv_has ls 1 [(0, .int what)] := hl
  refine lv_iload_n hx hb dN_wordOf_0 rfl (lv_at hl 0 rfl) ?_
  by_cases c_1 : what = 0
  · refine lv_tableIn (off := 39) (tgt := 40) hx hb dN_wordOf_1 (by rw [c_1]; decide) (by rw [c_1]; decide) (by rw [c_1]; rfl) (by decide) ?_
    refine va_ldcS hx hb hown (xs_R hV hAt 0 (by decide)) dN_wordOf_40 ?_
    have e_f : fN_wordOf what = 0 := (if_pos c_1).trans (rfl)
    exact W.aret (v := .ref (adK 0)) hx hb hr (Or.inl ⟨_, rfl⟩) (Or.inr ⟨_, rfl⟩) (fun t ht hW => ⟨by rw [e_f], ht⟩) (fun _ h => by cases h) dN_wordOf_42
  by_cases c_2 : what = 1
  · refine lv_tableIn (off := 42) (tgt := 43) hx hb dN_wordOf_1 (by rw [c_2]; decide) (by rw [c_2]; decide) (by rw [c_2]; rfl) (by decide) ?_
    refine va_ldcS hx hb hown (xs_R hV hAt 1 (by decide)) dN_wordOf_43 ?_
    have e_f : fN_wordOf what = 1 := (if_neg c_1).trans ((if_pos c_2).trans (rfl))
    exact W.aret (v := .ref (adK 1)) hx hb hr (Or.inl ⟨_, rfl⟩) (Or.inr ⟨_, rfl⟩) (fun t ht hW => ⟨by rw [e_f], ht⟩) (fun _ h => by cases h) dN_wordOf_45
  by_cases c_3 : what = 2
  · refine lv_tableIn (off := 45) (tgt := 46) hx hb dN_wordOf_1 (by rw [c_3]; decide) (by rw [c_3]; decide) (by rw [c_3]; rfl) (by decide) ?_
    refine va_ldcS hx hb hown (xs_R hV hAt 2 (by decide)) dN_wordOf_46 ?_
    have e_f : fN_wordOf what = 2 := (if_neg c_1).trans ((if_neg c_2).trans ((if_pos c_3).trans (rfl)))
    exact W.aret (v := .ref (adK 2)) hx hb hr (Or.inl ⟨_, rfl⟩) (Or.inr ⟨_, rfl⟩) (fun t ht hW => ⟨by rw [e_f], ht⟩) (fun _ h => by cases h) dN_wordOf_48
  by_cases c_4 : what = 3
  · refine lv_tableIn (off := 48) (tgt := 49) hx hb dN_wordOf_1 (by rw [c_4]; decide) (by rw [c_4]; decide) (by rw [c_4]; rfl) (by decide) ?_
    refine va_ldcS hx hb hown (xs_R hV hAt 3 (by decide)) dN_wordOf_49 ?_
    have e_f : fN_wordOf what = 3 := (if_neg c_1).trans ((if_neg c_2).trans ((if_neg c_3).trans ((if_pos c_4).trans (rfl))))
    exact W.aret (v := .ref (adK 3)) hx hb hr (Or.inl ⟨_, rfl⟩) (Or.inr ⟨_, rfl⟩) (fun t ht hW => ⟨by rw [e_f], ht⟩) (fun _ h => by cases h) dN_wordOf_51
  by_cases c_5 : what = 4
  · refine lv_tableIn (off := 51) (tgt := 52) hx hb dN_wordOf_1 (by rw [c_5]; decide) (by rw [c_5]; decide) (by rw [c_5]; rfl) (by decide) ?_
    refine va_ldcS hx hb hown (xs_R hV hAt 4 (by decide)) dN_wordOf_52 ?_
    have e_f : fN_wordOf what = 4 := (if_neg c_1).trans ((if_neg c_2).trans ((if_neg c_3).trans ((if_neg c_4).trans ((if_pos c_5).trans (rfl)))))
    exact W.aret (v := .ref (adK 4)) hx hb hr (Or.inl ⟨_, rfl⟩) (Or.inr ⟨_, rfl⟩) (fun t ht hW => ⟨by rw [e_f], ht⟩) (fun _ h => by cases h) dN_wordOf_54
  by_cases c_6 : what = 5
  · refine lv_tableIn (off := 54) (tgt := 55) hx hb dN_wordOf_1 (by rw [c_6]; decide) (by rw [c_6]; decide) (by rw [c_6]; rfl) (by decide) ?_
    refine va_ldcS hx hb hown (xs_R hV hAt 5 (by decide)) dN_wordOf_55 ?_
    have e_f : fN_wordOf what = 5 := (if_neg c_1).trans ((if_neg c_2).trans ((if_neg c_3).trans ((if_neg c_4).trans ((if_neg c_5).trans ((if_pos c_6).trans (rfl))))))
    exact W.aret (v := .ref (adK 5)) hx hb hr (Or.inl ⟨_, rfl⟩) (Or.inr ⟨_, rfl⟩) (fun t ht hW => ⟨by rw [e_f], ht⟩) (fun _ h => by cases h) dN_wordOf_57
  refine lv_tableOut (tgt := 58) hx hb dN_wordOf_1 (by have q0 := lv_neT c_1 (a := 0) (by decide); have q1 := lv_neT c_2 (a := 1) (by decide); have q2 := lv_neT c_3 (a := 2) (by decide); have q3 := lv_neT c_4 (a := 3) (by decide); have q4 := lv_neT c_5 (a := 4) (by decide); have q5 := lv_neT c_6 (a := 5) (by decide); omega) (by decide) ?_
  refine va_ldcS hx hb hown (xs_R hV hAt 6 (by decide)) dN_wordOf_58 ?_
  have e_f : fN_wordOf what = 6 := (if_neg c_1).trans ((if_neg c_2).trans ((if_neg c_3).trans ((if_neg c_4).trans ((if_neg c_5).trans ((if_neg c_6).trans (rfl))))))
  exact W.aret (v := .ref (adK 6)) hx hb hr (Or.inl ⟨_, rfl⟩) (Or.inr ⟨_, rfl⟩) (fun t ht hW => ⟨by rw [e_f], ht⟩) (fun _ h => by cases h) dN_wordOf_60

theorem xs_w (x : Int32) : fN_wordOf x < 7 := by
  unfold fN_wordOf
  repeat' split
  all_goals decide
theorem xs_l {wi : Nat} (hw : wi < 7) : fS_length wi = nI (xs_len.getD wi 0) := by
  have h : ∀ j, j < 7 → fS_length j = nI (xs_len.getD j 0) := by decide
  exact h wi hw
theorem xs_5 {wi : Nat} (hw : wi < 7) : xs_len.getD wi 0 ≤ 5 := by
  have h : ∀ j, j < 7 → xs_len.getD j 0 ≤ 5 := by decide
  exact h wi hw
theorem xs_k {wi n : Nat} {al : Int32} (hw : wi < 7) (h : xl_c 0 5 n al) (c : ¬ (fS_length wi) ≤ al) : vp_in al (xs_len.getD wi 0) := by
  obtain ⟨i, rfl, -, h4, h5⟩ := h
  have q := xs_5 hw
  rw [xs_l hw, nI_leI (by omega) (by omega)] at c
  exact vp_in_nI (by omega) (by omega)
theorem xs_s {wi n : Nat} {al : Int32} (hw : wi < 7) (h : xl_c 0 5 (n + 1) al) (c : ¬ (fS_length wi) ≤ al) : xl_c 0 5 n (al + 1) := by
  obtain ⟨i, rfl, h3, h4, h5⟩ := h
  have q := xs_5 hw
  rw [xs_l hw, nI_leI (by omega) (by omega)] at c
  exact ⟨i + 1, nI_1 i, by omega, by omega, by omega⟩

def kT_unitsAlike_2a (uf : Nat → Int32) (len : Int32) (nx : Int32) (wi : Nat) : Nat → Int32 → Int32
  | 0, _ => default
  | n_2 + 1, al => if (fS_length wi) ≤ al then (al) else (if (fT_look uf len (nx + al)) = (fS_charAt wi al) then (kT_unitsAlike_2a uf len nx wi n_2 (al + 1)) else (al))
def fT_unitsAlike (uf : Nat → Int32) (len : Int32) (nx : Int32) (wi : Nat) : Int32 := kT_unitsAlike_2a uf len nx wi 6 (0)
set_option maxHeartbeats 4000000 in
set_option maxRecDepth 100000 in
theorem cT_unitsAlike (l : Launch) {s0 : State} {dC : Nat → ClassId} {dI : Nat → Nat → Nat} {cI cC cL cO : ClassId} (E : xb_Env l s0 dC dI (xtys cI cC cL cO)) {adK adV : Nat → Nat} (h0 : Nat) (fs : List Value) (ua : Nat) (uf : Nat → Int32) (len : Int32) (nx : Int32) (wi : Nat) (hf0 : fs[0]? = some (.ref ua)) (hf1 : fs[1]? = some (.int len)) (hf2 : fs[2]? = some (.int nx)) (hlen : len ≤ 200) (hV : xs_V s0 adK adV) (hw : wi < 7) : Met l yT_unitsAlike [.code yT_unitsAlike bT_unitsAlike 3 (some (.int))] ({ frames := 4, cells := 0, slots := 0, locals := 85 }) (va_Pc [.ref h0, .ref (adK wi)] (fun U => xb_At s0 U ∧ va_P (dC, dI) classes [(h0, .inr (1, fs)), (ua, .inl (cC, 200, .inl uf))] U.heap)) (xb_R (some (.int (fT_unitsAlike uf len nx wi)))) 0 0 (fun _ => False) := by
  refine Met.ofW (cc := bT_unitsAlike) (maxL := 3) (ret := (some (.int))) (by decide) rfl ?_
  intro p e s m args below meth c s₁ B hml hv
  obtain ⟨rfl, hAt, hP⟩ := hv
  have hx := B.exec
  have hb := B.bytes
  have hr := B.returns
  have hts := xb_hts E hAt ([.ref h0, .ref (adK wi)] : List Value).toArray
  have hown : s.vm.findClass "NailRules$Text" = some m.cls := findClass_of_methodNamed B.named
  have hlocks := B.notSynchronized
  have hK := xb_K E hAt
  have hl := lv_entry ([.ref h0, .ref (adK wi)]) (n := 3) (Nat.le_of_ble_eq_true rfl)
  rw [lg_entry_eq]
  generalize (lg_sl ([.ref h0, .ref (adK wi)]) ++ List.replicate (3 - (lg_sl ([.ref h0, .ref (adK wi)])).length) Slot.unset).toArray = ls at hl ⊢
  have hl : lv_has ls 3 [(0, .ref h0), (1, .ref (adK wi))] := hl
  refine lv_iconst (v := 0) hx hb dT_unitsAlike_0 (by decide) ?_
  refine lv_istore_n (lv' := [(2, .int 0), (0, .ref h0), (1, .ref (adK wi))]) hx hb dT_unitsAlike_1 rfl hl (by decide) rfl (fun ls hl => ?_)
  have lp_2 : ∀ (n_2 : Nat) (al : Int32), (xl_c 0 5 n_2 al) → fT_unitsAlike uf len nx wi = kT_unitsAlike_2a uf len nx wi n_2 al → ∀ ls : Array Slot, lv_has ls 3 [(2, .int al), (0, .ref h0), (1, .ref (adK wi))] → W p l e (headSpec [.code yT_unitsAlike bT_unitsAlike 3 (some (.int))] ({ frames := 4, cells := 0, slots := 0, locals := 85 })).room s m ([.ref h0, .ref (adK wi)] : List Value).toArray below meth c s.heap [] 0 0 (MQ below (xb_R (some (.int (fT_unitsAlike uf len nx wi)))) ([.ref h0, .ref (adK wi)] : List Value).toArray s 0 0 (fun _ => False)) (F0 m 2 ls []) := by
    intro n_2
    induction n_2 with
    | zero =>
      intro al hinv_2
      exact xl_0 hinv_2
    | succ n_2 ih_2 =>
      intro al hinv_2 hres_2 ls hl
      refine lv_iload_n hx hb dT_unitsAlike_2 rfl (lv_at hl 0 rfl) ?_
      refine lv_aload_n hx hb dT_unitsAlike_3 rfl (lv_at hl 2 rfl) ?_
      refine xb_rd (W.runV (C := "java/lang/String") (As := []) (rest := [.int al]) ⟨hx, hb, hml, hown, hts⟩ (cS_length l E wi (hV) (hw)) (cwV 0 hts (xb_gi (List.forall_mem_cons.mpr ⟨xk_205, List.forall_mem_cons.mpr ⟨xk_206, List.forall_mem_cons.mpr ⟨xk_207, List.forall_mem_cons.mpr ⟨xk_46, List.forall_mem_cons.mpr ⟨xk_208, fun _ h => absurd h List.not_mem_nil⟩⟩⟩⟩⟩)) rfl rfl rfl (by decide +kernel) ⟨Nat.le_of_ble_eq_true rfl, Nat.le_of_ble_eq_true rfl⟩) ⟨fun _ _ _ _ q => q, xs_rc (U := s) hV hAt (va_S.rf : va_S (xa_A s0) s.heap s.heap []) (fun _ h => h) (hw), fun U hU hW => ⟨rfl, xb_at0 hAt hU hW, fun k q h => by simp at h⟩⟩ rfl rfl hl.1 rfl (lv_room (Nat.le_of_ble_eq_true rfl)) dT_unitsAlike_4 ⟨Nat.zero_le _, Nat.zero_le _⟩) ?_
      refine lv_icmp_ge (tgt := 34) hx hb dT_unitsAlike_7 (by decide) (fun c_1 => ?_) (fun c_1 => ?_)
      · refine lv_iload_n hx hb dT_unitsAlike_34 rfl (lv_at hl 0 rfl) ?_
        have e_f : fT_unitsAlike uf len nx wi = al := hres_2.trans ((if_pos c_1).trans (rfl))
        exact W.iret (v := al) hx hb hr (fun t ht hW => ⟨by rw [e_f], ht⟩) (fun _ h => by cases h) dT_unitsAlike_35
      · refine lv_aload_n hx hb dT_unitsAlike_10 rfl (lv_at hl 1 rfl) ?_
        refine lv_aload_n hx hb dT_unitsAlike_11 rfl (lv_at hl 1 rfl) ?_
        refine va_get (D := (dC, dI)) (ci := 1) (v := .int nx) (C := xR_T) (T := xF_T) (N := 3) hx hb hts xi_T hown hK hP 0 rfl rfl 2 (by decide) (hts _ xk_78) (fun _ h9 => h9) hf2 dT_unitsAlike_12 ?_
        refine lv_iload_n hx hb dT_unitsAlike_15 rfl (lv_at hl 0 rfl) ?_
        refine lv_iadd hx hb dT_unitsAlike_16 ?_
        refine xb_rd (W.runV (C := "NailRules$Text") (As := [.int (nx + al)]) (rest := []) ⟨hx, hb, hml, hown, hts⟩ (cT_look l E h0 fs ua uf len (nx + al) hf0 hf1 (hlen)) (cwV 1 hts (xb_gi (List.forall_mem_cons.mpr ⟨xk_176, List.forall_mem_cons.mpr ⟨xk_178, List.forall_mem_cons.mpr ⟨xk_5, List.forall_mem_cons.mpr ⟨xk_41, List.forall_mem_cons.mpr ⟨xk_179, fun _ h => absurd h List.not_mem_nil⟩⟩⟩⟩⟩)) rfl rfl rfl (by decide +kernel) ⟨Nat.le_of_ble_eq_true rfl, Nat.le_of_ble_eq_true rfl⟩) ⟨fun _ _ _ _ q => q, va_recv hK hP (ci := 1) (q0 := 0) rfl rfl, fun U hU hW => ⟨rfl, xb_at0 hAt hU hW, by rw [hU]; exact hP.sub (ws' := [(h0, .inr (1, fs)), (ua, .inl (cC, 200, .inl uf))]) [0, 1] rfl⟩⟩ rfl rfl hl.1 rfl (lv_room (Nat.le_of_ble_eq_true rfl)) dT_unitsAlike_17 ⟨Nat.zero_le _, Nat.zero_le _⟩) ?_
        refine lv_aload_n hx hb dT_unitsAlike_20 rfl (lv_at hl 2 rfl) ?_
        refine lv_iload_n hx hb dT_unitsAlike_21 rfl (lv_at hl 0 rfl) ?_
        refine xb_rd (W.runV (C := "java/lang/String") (As := [.int al]) (rest := [.int (fT_look uf len (nx + al))]) ⟨hx, hb, hml, hown, hts⟩ (cS_charAt l E wi al (hV) (hw) (xs_k hw hinv_2 c_1)) (cwV 1 hts (xb_gi (List.forall_mem_cons.mpr ⟨xk_215, List.forall_mem_cons.mpr ⟨xk_216, List.forall_mem_cons.mpr ⟨xk_217, List.forall_mem_cons.mpr ⟨xk_46, List.forall_mem_cons.mpr ⟨xk_218, fun _ h => absurd h List.not_mem_nil⟩⟩⟩⟩⟩)) rfl rfl rfl (by decide +kernel) ⟨Nat.le_of_ble_eq_true rfl, Nat.le_of_ble_eq_true rfl⟩) ⟨fun _ _ _ _ q => q, xs_rc (U := s) hV hAt (va_S.rf : va_S (xa_A s0) s.heap s.heap []) (fun _ h => h) (hw), fun U hU hW => ⟨rfl, xb_at0 hAt hU hW, fun k q h => by simp at h⟩⟩ rfl rfl hl.1 rfl (lv_room (Nat.le_of_ble_eq_true rfl)) dT_unitsAlike_22 ⟨Nat.zero_le _, Nat.zero_le _⟩) ?_
        refine lv_icmp_ne (tgt := 34) hx hb dT_unitsAlike_25 (by decide) (fun c_2 => ?_) (fun c_2 => ?_)
        · refine lv_iload_n hx hb dT_unitsAlike_34 rfl (lv_at hl 0 rfl) ?_
          have e_f : fT_unitsAlike uf len nx wi = al := hres_2.trans ((if_neg c_1).trans ((if_neg c_2).trans (rfl)))
          exact W.iret (v := al) hx hb hr (fun t ht hW => ⟨by rw [e_f], ht⟩) (fun _ h => by cases h) dT_unitsAlike_35
        · refine lv_iinc (v := al + 1) (lv' := [(2, .int (al + 1)), (0, .ref h0), (1, .ref (adK wi))]) hx hb dT_unitsAlike_28 hl (k := 0) rfl rfl (by decide) rfl (fun ls hl => ?_)
          refine lv_goto (tgt := 2) hx hb dT_unitsAlike_31 (by decide) ?_
          have v_inv : xl_c 0 5 n_2 (al + 1) := xs_s hw hinv_2 c_1
          have v_res : fT_unitsAlike uf len nx wi = kT_unitsAlike_2a uf len nx wi n_2 (al + 1) := hres_2.trans ((if_neg c_1).trans ((if_pos c_2).trans (rfl)))
          exact ih_2 (al + 1) v_inv v_res ls (lv_sub hl [0, 1, 2] rfl)
  have v_inv : xl_c 0 5 6 (0 : Int32) := ⟨0, rfl, by omega, by omega, by omega⟩
  have v_res : fT_unitsAlike uf len nx wi = kT_unitsAlike_2a uf len nx wi 6 (0) := rfl
  exact lp_2 6 (0) v_inv v_res ls (lv_sub hl [0, 1, 2] rfl)

def kT_takeWord_4a_0 (uf : Nat → Int32) (len : Int32) (nx : Int32) : Nat → Int32 → Int32 → Int32
  | 0, _, _ => default
  | n_4 + 1, fu, ww => if 7 ≤ ww then (((-1))) else (if (fT_unitsAlike uf len nx (fN_wordOf ww)) = (fS_length (fN_wordOf ww)) then (ww) else (kT_takeWord_4a_0 uf len nx n_4 (if fu < (fT_unitsAlike uf len nx (fN_wordOf ww)) then (fT_unitsAlike uf len nx (fN_wordOf ww)) else fu) (ww + 1)))
def kT_takeWord_4a_1 (uf : Nat → Int32) (len : Int32) (nx : Int32) : Nat → Int32 → Int32 → Int32
  | 0, _, _ => default
  | n_4 + 1, fu, ww => if 7 ≤ ww then (nx + fu) else (if (fT_unitsAlike uf len nx (fN_wordOf ww)) = (fS_length (fN_wordOf ww)) then (nx + (fT_unitsAlike uf len nx (fN_wordOf ww))) else (kT_takeWord_4a_1 uf len nx n_4 (if fu < (fT_unitsAlike uf len nx (fN_wordOf ww)) then (fT_unitsAlike uf len nx (fN_wordOf ww)) else fu) (ww + 1)))
def gT_takeWord (uf : Nat → Int32) (len : Int32) (nx : Int32) : Int32 := kT_takeWord_4a_0 uf len nx 8 (0) (0)
def gT_takeWord_2 (uf : Nat → Int32) (len : Int32) (nx : Int32) : Int32 := kT_takeWord_4a_1 uf len nx 8 (0) (0)
set_option maxHeartbeats 4000000 in
set_option maxRecDepth 100000 in
theorem cT_takeWord (l : Launch) {s0 : State} {dC : Nat → ClassId} {dI : Nat → Nat → Nat} {cI cC cL cO : ClassId} (E : xb_Env l s0 dC dI (xtys cI cC cL cO)) {adK adV : Nat → Nat} (sz : Nat) (h0 : Nat) (ua : Nat) (len : Int32) (nx : Int32) (uf : Nat → Int32) (hlen : len ≤ 200) (hV : xs_V s0 adK adV) : Met l yT_takeWord [.code yT_takeWord bT_takeWord 5 (some (.int))] ({ frames := 5, cells := 0, slots := 0, locals := 107 }) (va_Pc [.ref h0] (fun U => xb_At s0 U ∧ U.heap.size = sz ∧ va_P (dC, dI) classes [(h0, .inr (1, [.ref ua, .int len, .int nx])), (ua, .inl (cC, 200, .inl uf))] U.heap ∧ va_D (fun q => s0.heap.size ≤ q) [(h0, .inr (1, [.ref ua, .int len, .int nx])), (ua, .inl (cC, 200, .inl uf))])) (xb_W (dC, dI) (fun v9 w9 => v9 = some (.int (gT_takeWord uf len nx)) ∧ w9 = [(h0, .inr (1, [.ref ua, .int len, .int (gT_takeWord_2 uf len nx)])), (ua, .inl (cC, 200, .inl uf))]) (va_A [(h0, .inr (1, [.ref ua, .int len, .int nx])), (ua, .inl (cC, 200, .inl uf))] sz)) 0 0 (va_A [(h0, .inr (1, [.ref ua, .int len, .int nx])), (ua, .inl (cC, 200, .inl uf))] sz) := by
  refine Met.ofW (cc := bT_takeWord) (maxL := 5) (ret := (some (.int))) (by decide) rfl ?_
  intro p e s m args below meth c s₁ B hml hv
  obtain ⟨rfl, hAt, hsz, hP, hD0⟩ := hv
  have hx := B.exec
  have hb := B.bytes
  have hr := B.returns
  have hts := xb_hts E hAt ([.ref h0] : List Value).toArray
  have hown : s.vm.findClass "NailRules$Text" = some m.cls := findClass_of_methodNamed B.named
  have hlocks := B.notSynchronized
  have hK := xb_K E hAt
  subst hsz
  have hA0 := xb_A0 hAt hD0
  have hD := hD0.self (sz := s.heap.size)
  generalize hAe : va_A [(h0, .inr (1, [.ref ua, .int len, .int nx])), (ua, .inl (cC, 200, .inl uf))] s.heap.size = A at hD hA0 ⊢
  have hA : ∀ q : Nat, s.heap.size ≤ q → A q := fun q h => by rw [← hAe]; exact Or.inr h
  have hS : va_S A s.heap s.heap [] := va_S.rf
  have hl := lv_entry ([.ref h0]) (n := 5) (Nat.le_of_ble_eq_true rfl)
  rw [lg_entry_eq]
  generalize (lg_sl ([.ref h0]) ++ List.replicate (5 - (lg_sl ([.ref h0])).length) Slot.unset).toArray = ls at hl ⊢
  have hl : lv_has ls 5 [(0, .ref h0)] := hl
  refine lv_iconst (v := 0) hx hb dT_takeWord_0 (by decide) ?_
  refine lv_istore_n (lv' := [(1, .int 0), (0, .ref h0)]) hx hb dT_takeWord_1 rfl hl (by decide) rfl (fun ls hl => ?_)
  refine lv_iconst (v := 0) hx hb dT_takeWord_2 (by decide) ?_
  refine lv_istore_n (lv' := [(2, .int 0), (1, .int 0), (0, .ref h0)]) hx hb dT_takeWord_3 rfl hl (by decide) rfl (fun ls hl => ?_)
  have lp_4 : ∀ (n_4 : Nat) (fu : Int32) (ww : Int32), (xl_c 0 7 n_4 ww) → gT_takeWord uf len nx = kT_takeWord_4a_0 uf len nx n_4 fu ww → gT_takeWord_2 uf len nx = kT_takeWord_4a_1 uf len nx n_4 fu ww → ∀ (H : Heap) (locs : List Loc), va_P (dC, dI) classes [(h0, .inr (1, [.ref ua, .int len, .int nx])), (ua, .inl (cC, 200, .inl uf))] H → va_D A [(h0, .inr (1, [.ref ua, .int len, .int nx])), (ua, .inl (cC, 200, .inl uf))] → va_S A s.heap H locs → ∀ ls : Array Slot, lv_has ls 5 [(1, .int fu), (2, .int ww), (0, .ref h0)] → W p l e (headSpec [.code yT_takeWord bT_takeWord 5 (some (.int))] ({ frames := 5, cells := 0, slots := 0, locals := 107 })).room s m ([.ref h0] : List Value).toArray below meth c H locs 0 0 (MQ below (xb_W (dC, dI) (fun v9 w9 => v9 = some (.int (gT_takeWord uf len nx)) ∧ w9 = [(h0, .inr (1, [.ref ua, .int len, .int (gT_takeWord_2 uf len nx)])), (ua, .inl (cC, 200, .inl uf))]) A) ([.ref h0] : List Value).toArray s 0 0 A) (F0 m 4 ls []) := by
    intro n_4
    induction n_4 with
    | zero =>
      intro fu ww hinv_4
      exact xl_0 hinv_4
    | succ n_4 ih_4 =>
      intro fu ww hinv_4 hres_4_0 hres_4_1 H locs hP hD hS ls hl
      refine lv_iload_n hx hb dT_takeWord_4 rfl (lv_at hl 1 rfl) ?_
      refine lv_bipush (v := 7) hx hb dT_takeWord_5 (by decide) ?_
      refine lv_icmp_ge (tgt := 57) hx hb dT_takeWord_7 (by decide) (fun c_1 => ?_) (fun c_1 => ?_)
      · refine lv_aload_n hx hb dT_takeWord_57 rfl (lv_at hl 2 rfl) ?_
        refine lv_dup hx hb dT_takeWord_58 rfl ?_
        refine va_get (D := (dC, dI)) (ci := 1) (v := .int nx) (C := xR_T) (T := xF_T) (N := 3) hx hb hts xi_T hown hK hP 0 rfl rfl 2 (by decide) (hts _ xk_78) (fun _ h9 => h9) rfl dT_takeWord_59 ?_
        refine lv_iload_n hx hb dT_takeWord_62 rfl (lv_at hl 0 rfl) ?_
        refine lv_iadd hx hb dT_takeWord_63 ?_
        refine va_put (D := (dC, dI)) (ci := 1) (v := .int (nx + fu)) (ty := .int) (C := xR_T) (T := xF_T) (N := 3) hx hb hts xi_T xt_T xt_T_ok xn_T hown hK hP hD hS 0 rfl rfl 2 (by decide) (hts _ xk_78) (fun _ h9 => h9) rfl (by decide +kernel) rfl rfl (Nat.le_of_ble_eq_true rfl) dT_takeWord_64 (fun H locs hP hD hS => ?_)
        have hP : va_P (dC, dI) classes [(h0, .inr (1, [.ref ua, .int len, .int (nx + fu)])), (ua, .inl (cC, 200, .inl uf))] H := hP
        have hD : va_D A [(h0, .inr (1, [.ref ua, .int len, .int (nx + fu)])), (ua, .inl (cC, 200, .inl uf))] := hD
        refine lv_iconst (v := (-1)) hx hb dT_takeWord_67 (by decide) ?_
        have e_0 : gT_takeWord uf len nx = ((-1) : Int32) := hres_4_0.trans ((if_pos c_1).trans (rfl))
        have e_1 : gT_takeWord_2 uf len nx = (nx + fu) := hres_4_1.trans ((if_pos c_1).trans (rfl))
        have hP9 := hP.sub (ws' := [(h0, .inr (1, [.ref ua, .int len, .int (nx + fu)])), (ua, .inl (cC, 200, .inl uf))]) [0, 1] rfl
        have hD9 := hD.sub (ws' := [(h0, .inr (1, [.ref ua, .int len, .int (nx + fu)])), (ua, .inl (cC, 200, .inl uf))]) [0, 1] (by decide) rfl
        exact W.iret (v := (-1)) hx hb hr (fun t ht hW => ⟨_, _, rfl, ⟨by first | rfl | (simp only [e_0, e_1]; try rfl), by first | rfl | (simp only [e_0, e_1]; try rfl)⟩, by rw [ht]; exact hP9, hD9, hS.F ht⟩) hS.2.2 dT_takeWord_68
      · refine lv_iload_n hx hb dT_takeWord_10 rfl (lv_at hl 1 rfl) ?_
        refine xb_rdN (va_runSN (As := [.int ww]) (rest := []) ⟨hx, hb, hml, hown, hts⟩ (cN_wordOf l E ww (hV)) ⟨va_cnB 1 hts (xb_gi (List.forall_mem_cons.mpr ⟨xk_193, fun _ h => absurd h List.not_mem_nil⟩)) rfl rfl rfl (xb_nest E hAt xk_191) (hts _ xk_40) (by decide +kernel) ⟨Nat.le_of_ble_eq_true rfl, Nat.le_of_ble_eq_true rfl⟩, hts _ xk_192, trivial⟩ ⟨fun _ _ _ _ q => q, fun U hU hW => ⟨rfl, xb_atS hAt hS hA0 hU hW, fun k q h => by simp at h⟩⟩ rfl rfl hl.1 rfl (lv_room (Nat.le_of_ble_eq_true rfl)) dT_takeWord_11 ⟨Nat.zero_le _, Nat.zero_le _⟩) ?_
        refine lv_astore_n (lv' := [(3, .ref (adK (fN_wordOf ww))), (1, .int fu), (2, .int ww), (0, .ref h0)]) hx hb dT_takeWord_14 rfl hl (by decide) rfl (fun ls hl => ?_)
        refine lv_aload_n hx hb dT_takeWord_15 rfl (lv_at hl 3 rfl) ?_
        refine lv_aload_n hx hb dT_takeWord_16 rfl (lv_at hl 0 rfl) ?_
        refine xb_rd (W.runV (C := "NailRules$Text") (As := [.ref (adK (fN_wordOf ww))]) (rest := []) ⟨hx, hb, hml, hown, hts⟩ (cT_unitsAlike l E h0 ([.ref ua, .int len, .int nx]) ua uf len nx (fN_wordOf ww) rfl rfl rfl (hlen) (hV) (xs_w _)) (cwV 1 hts (xb_gi (List.forall_mem_cons.mpr ⟨xk_201, List.forall_mem_cons.mpr ⟨xk_203, List.forall_mem_cons.mpr ⟨xk_8, List.forall_mem_cons.mpr ⟨xk_41, List.forall_mem_cons.mpr ⟨xk_204, fun _ h => absurd h List.not_mem_nil⟩⟩⟩⟩⟩)) rfl rfl rfl (by decide +kernel) ⟨Nat.le_of_ble_eq_true rfl, Nat.le_of_ble_eq_true rfl⟩) ⟨fun _ _ _ _ q => q, va_recv hK hP (ci := 1) (q0 := 0) rfl rfl, fun U hU hW => ⟨rfl, xb_atS hAt hS hA0 hU hW, by rw [hU]; exact hP.sub (ws' := [(h0, .inr (1, [.ref ua, .int len, .int nx])), (ua, .inl (cC, 200, .inl uf))]) [0, 1] rfl⟩⟩ rfl rfl hl.1 rfl (lv_room (Nat.le_of_ble_eq_true rfl)) dT_takeWord_17 ⟨Nat.zero_le _, Nat.zero_le _⟩) ?_
        refine lv_istore (lv' := [(4, .int (fT_unitsAlike uf len nx (fN_wordOf ww))), (3, .ref (adK (fN_wordOf ww))), (1, .int fu), (2, .int ww), (0, .ref h0)]) hx hb dT_takeWord_20 hl (by decide) rfl (fun ls hl => ?_)
        refine lv_iload hx hb dT_takeWord_22 (lv_at hl 0 rfl) ?_
        refine lv_aload_n hx hb dT_takeWord_24 rfl (lv_at hl 1 rfl) ?_
        refine xb_rd (W.runV (C := "java/lang/String") (As := []) (rest := [.int (fT_unitsAlike uf len nx (fN_wordOf ww))]) ⟨hx, hb, hml, hown, hts⟩ (cS_length l E (fN_wordOf ww) (hV) (xs_w _)) (cwV 0 hts (xb_gi (List.forall_mem_cons.mpr ⟨xk_205, List.forall_mem_cons.mpr ⟨xk_206, List.forall_mem_cons.mpr ⟨xk_207, List.forall_mem_cons.mpr ⟨xk_46, List.forall_mem_cons.mpr ⟨xk_208, fun _ h => absurd h List.not_mem_nil⟩⟩⟩⟩⟩)) rfl rfl rfl (by decide +kernel) ⟨Nat.le_of_ble_eq_true rfl, Nat.le_of_ble_eq_true rfl⟩) ⟨fun _ _ _ _ q => q, xs_rc (U := s) hV hAt hS hA0 (xs_w _), fun U hU hW => ⟨rfl, xb_atS hAt hS hA0 hU hW, fun k q h => by simp at h⟩⟩ rfl rfl hl.1 rfl (lv_room (Nat.le_of_ble_eq_true rfl)) dT_takeWord_25 ⟨Nat.zero_le _, Nat.zero_le _⟩) ?_
        refine lv_icmp_ne (tgt := 44) hx hb dT_takeWord_28 (by decide) (fun c_3 => ?_) (fun c_3 => ?_)
        · refine lv_iload_n hx hb dT_takeWord_44 rfl (lv_at hl 2 rfl) ?_
          refine lv_iload hx hb dT_takeWord_45 (lv_at hl 0 rfl) ?_
          refine va_mmax hx hb (hml.trans hl.1.symm) hown (hts _ xk_253) (hts _ xk_254) (hts _ xk_50) (hts _ xk_255) (by decide) (by decide) (by decide) (by decide) dT_takeWord_47 ?_
          refine lv_istore_n (lv' := [(1, .int (if fu < (fT_unitsAlike uf len nx (fN_wordOf ww)) then (fT_unitsAlike uf len nx (fN_wordOf ww)) else fu)), (4, .int (fT_unitsAlike uf len nx (fN_wordOf ww))), (3, .ref (adK (fN_wordOf ww))), (2, .int ww), (0, .ref h0)]) hx hb dT_takeWord_50 rfl hl (by decide) rfl (fun ls hl => ?_)
          refine lv_iinc (v := ww + 1) (lv' := [(2, .int (ww + 1)), (1, .int (if fu < (fT_unitsAlike uf len nx (fN_wordOf ww)) then (fT_unitsAlike uf len nx (fN_wordOf ww)) else fu)), (4, .int (fT_unitsAlike uf len nx (fN_wordOf ww))), (3, .ref (adK (fN_wordOf ww))), (0, .ref h0)]) hx hb dT_takeWord_51 hl (k := 3) rfl rfl (by decide) rfl (fun ls hl => ?_)
          refine lv_goto (tgt := 4) hx hb dT_takeWord_54 (by decide) ?_
          have v_inv : xl_c 0 7 n_4 (ww + 1) := xl_s1 (b := 7) hinv_4 (by decide) (by decide) c_1
          have v_0 : gT_takeWord uf len nx = kT_takeWord_4a_0 uf len nx n_4 (if fu < (fT_unitsAlike uf len nx (fN_wordOf ww)) then (fT_unitsAlike uf len nx (fN_wordOf ww)) else fu) (ww + 1) := hres_4_0.trans ((if_neg c_1).trans ((if_neg c_3).trans (rfl)))
          have v_1 : gT_takeWord_2 uf len nx = kT_takeWord_4a_1 uf len nx n_4 (if fu < (fT_unitsAlike uf len nx (fN_wordOf ww)) then (fT_unitsAlike uf len nx (fN_wordOf ww)) else fu) (ww + 1) := hres_4_1.trans ((if_neg c_1).trans ((if_neg c_3).trans (rfl)))
          exact ih_4 (if fu < (fT_unitsAlike uf len nx (fN_wordOf ww)) then (fT_unitsAlike uf len nx (fN_wordOf ww)) else fu) (ww + 1) v_inv v_0 v_1 _ _ (hP.sub (ws' := [(h0, .inr (1, [.ref ua, .int len, .int nx])), (ua, .inl (cC, 200, .inl uf))]) [0, 1] rfl) (hD.sub (ws' := [(h0, .inr (1, [.ref ua, .int len, .int nx])), (ua, .inl (cC, 200, .inl uf))]) [0, 1] (by decide) rfl) hS ls (lv_sub hl [1, 0, 4] rfl)
        · refine lv_aload_n hx hb dT_takeWord_31 rfl (lv_at hl 4 rfl) ?_
          refine lv_dup hx hb dT_takeWord_32 rfl ?_
          refine va_get (D := (dC, dI)) (ci := 1) (v := .int nx) (C := xR_T) (T := xF_T) (N := 3) hx hb hts xi_T hown hK hP 0 rfl rfl 2 (by decide) (hts _ xk_78) (fun _ h9 => h9) rfl dT_takeWord_33 ?_
          refine lv_iload hx hb dT_takeWord_36 (lv_at hl 0 rfl) ?_
          refine lv_iadd hx hb dT_takeWord_38 ?_
          refine va_put (D := (dC, dI)) (ci := 1) (v := .int (nx + (fT_unitsAlike uf len nx (fN_wordOf ww)))) (ty := .int) (C := xR_T) (T := xF_T) (N := 3) hx hb hts xi_T xt_T xt_T_ok xn_T hown hK hP hD hS 0 rfl rfl 2 (by decide) (hts _ xk_78) (fun _ h9 => h9) rfl (by decide +kernel) rfl rfl (Nat.le_of_ble_eq_true rfl) dT_takeWord_39 (fun H locs hP hD hS => ?_)
          have hP : va_P (dC, dI) classes [(h0, .inr (1, [.ref ua, .int len, .int (nx + (fT_unitsAlike uf len nx (fN_wordOf ww)))])), (ua, .inl (cC, 200, .inl uf))] H := hP
          have hD : va_D A [(h0, .inr (1, [.ref ua, .int len, .int (nx + (fT_unitsAlike uf len nx (fN_wordOf ww)))])), (ua, .inl (cC, 200, .inl uf))] := hD
          refine lv_iload_n hx hb dT_takeWord_42 rfl (lv_at hl 3 rfl) ?_
          have e_0 : gT_takeWord uf len nx = ww := hres_4_0.trans ((if_neg c_1).trans ((if_pos c_3).trans (rfl)))
          have e_1 : gT_takeWord_2 uf len nx = (nx + (fT_unitsAlike uf len nx (fN_wordOf ww))) := hres_4_1.trans ((if_neg c_1).trans ((if_pos c_3).trans (rfl)))
          have hP9 := hP.sub (ws' := [(h0, .inr (1, [.ref ua, .int len, .int (nx + (fT_unitsAlike uf len nx (fN_wordOf ww)))])), (ua, .inl (cC, 200, .inl uf))]) [0, 1] rfl
          have hD9 := hD.sub (ws' := [(h0, .inr (1, [.ref ua, .int len, .int (nx + (fT_unitsAlike uf len nx (fN_wordOf ww)))])), (ua, .inl (cC, 200, .inl uf))]) [0, 1] (by decide) rfl
          exact W.iret (v := ww) hx hb hr (fun t ht hW => ⟨_, _, rfl, ⟨by first | rfl | (simp only [e_0, e_1]; try rfl), by first | rfl | (simp only [e_0, e_1]; try rfl)⟩, by rw [ht]; exact hP9, hD9, hS.F ht⟩) hS.2.2 dT_takeWord_43
  have v_inv : xl_c 0 7 8 (0 : Int32) := ⟨0, rfl, by omega, by omega, by omega⟩
  have v_0 : gT_takeWord uf len nx = kT_takeWord_4a_0 uf len nx 8 (0) (0) := rfl
  have v_1 : gT_takeWord_2 uf len nx = kT_takeWord_4a_1 uf len nx 8 (0) (0) := rfl
  exact lp_4 8 (0) (0) v_inv v_0 v_1 _ _ (hP.sub (ws' := [(h0, .inr (1, [.ref ua, .int len, .int nx])), (ua, .inl (cC, 200, .inl uf))]) [0, 1] rfl) (hD.sub (ws' := [(h0, .inr (1, [.ref ua, .int len, .int nx])), (ua, .inl (cC, 200, .inl uf))]) [0, 1] (by decide) rfl) hS ls (lv_sub hl [1, 0, 2] rfl)
