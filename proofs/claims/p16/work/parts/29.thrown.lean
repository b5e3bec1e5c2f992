def fR_thrown (th : Int32) : Int32 := th
set_option maxHeartbeats 4000000 in
set_option maxRecDepth 100000 in
theorem cR_thrown (l : Launch) {s0 : State} {dC : Nat → ClassId} {dI : Nat → Nat → Nat} {cI cC cL cO : ClassId} (E : xb_Env l s0 dC dI (xtys cI cC cL cO)) (h0 : Nat) (fs : List Value) (th : Int32) (hf0 : fs[0]? = some (.int th)) : Met l yR_thrown [.code yR_thrown bR_thrown 1 (some (.int))] ({ frames := 0, cells := 0, slots := 0, locals := 0 }) (va_Pc [.ref h0] (fun U => xb_At s0 U ∧ va_P (dC, dI) classes [(h0, .inr (3, fs))] U.heap)) (xb_R (some (.int (fR_thrown th)))) 0 0 (fun _ => False) := by
  refine Met.ofW (cc := bR_thrown) (maxL := 1) (ret := (some (.int))) (by decide) rfl ?_
  intro p e s m args below meth c s₁ B hml hv
  obtain ⟨rfl, hAt, hP⟩ := hv
  have hx := B.exec
  have hb := B.bytes
  have hr := B.returns
  have hts := xb_hts E hAt ([.ref h0] : List Value).toArray
  have hown : s.vm.findClass "NailRulesModel" = some m.cls := findClass_of_methodNamed B.named
  have hlocks := B.notSynchronized
  have hK := xb_K E hAt
  have hl := lv_entry ([.ref h0]) (n := 1) (Nat.le_of_ble_eq_true rfl)
  rw [lg_entry_eq]
  generalize (lg_sl ([.ref h0]) ++ List.replicate (1 - (lg_sl ([.ref h0])).length) Slot.unset).toArray = ls at hl ⊢
  have hl : lv_has ls 1 [(0, .ref h0)] := hl
  refine lv_aload_n hx hb dR_thrown_0 rfl (lv_at hl 0 rfl) ?_
  refine va_get (D := (dC, dI)) (ci := 3) (v := .int th) (C := xR_R) (T := xF_R) (N := 20) hx hb hts xi_R hown hK hP 0 rfl rfl 0 (by decide) (hts _ xk_646) (fun _ h9 => h9) hf0 dR_thrown_1 ?_
  have e_f : fR_thrown th = th := rfl
  exact W.iret (v := th) hx hb hr (fun t ht hW => ⟨by rw [e_f], ht⟩) (fun _ h => by cases h) dR_thrown_4
