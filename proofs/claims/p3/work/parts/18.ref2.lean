theorem xm_1 {wo fr0 po wk : Int32} {n : Nat} (hw : ∃ j : Nat, j < 7 ∧ wo = nI j) (hf : ∃ a b : Nat, fr0 = nI a ∧ po = nI b ∧ a ≤ b ∧ b ≤ a + 5 ∧ b ≤ 200) (h : xl_c 0 5 n wk) (c : ¬ po - fr0 ≤ wk) : vp_in (5 * wo + wk) 35 ∧ vp_in (fr0 + wk) 200 := by
  obtain ⟨j, hj, rfl⟩ := hw
  obtain ⟨a, b, rfl, rfl, h1, h2, h3⟩ := hf
  obtain ⟨i, rfl, -, h4, h5⟩ := h
  rw [pk_sub h1, nI_leI (by omega) (by omega)] at c
  rw [show (5 : Int32) = nI 5 from rfl, pk_mul, nI_add, nI_add]
  exact ⟨vp_in_nI (by omega) (by omega), vp_in_nI (by omega) (by omega)⟩
theorem xm_2 {wo fr0 po : Int32} (hw : ∃ j : Nat, j < 7 ∧ wo = nI j) (hf : ∃ a b : Nat, fr0 = nI a ∧ po = nI b ∧ a ≤ b ∧ b ≤ a + 5 ∧ b ≤ 200) (c : ¬ po - fr0 = 5) : vp_in ((5 * wo) + po - fr0) 35 := by
  obtain ⟨j, hj, rfl⟩ := hw
  obtain ⟨a, b, rfl, rfl, h1, h2, h3⟩ := hf
  rw [pk_sub h1, show (5 : Int32) = nI 5 from rfl, nI_eq (by omega) (by omega)] at c
  rw [show (5 : Int32) = nI 5 from rfl, pk_mul, nI_add, pk_sub (by omega)]
  exact vp_in_nI (by omega) (by omega)
theorem xm_3 {fr0 po : Int32} (hf : ∃ a b : Nat, fr0 = nI a ∧ po = nI b ∧ a ≤ b ∧ b ≤ a + 5 ∧ b ≤ 200) : (po - fr0).toInt ≤ (5 : Nat) := by
  obtain ⟨a, b, rfl, rfl, h1, h2, h3⟩ := hf
  rw [pk_sub h1, nI_toInt (by omega)]
  omega
theorem xm_4 {x : Int32} (c : ¬ 5 ≤ x) : ¬ x = 5 := fun q => c (by rw [q]; decide)
theorem xm_5 {w : Int32} {n : Nat} (h : xl_c 0 7 n w) (c : ¬ 7 ≤ w) : ∃ j : Nat, j < 7 ∧ w = nI j := by
  obtain ⟨i, rfl, -, h4, h5⟩ := h
  rw [show (7 : Int32) = nI 7 from rfl, nI_leI (by omega) (by omega)] at c
  exact ⟨i, by omega, rfl⟩
def kR_may_6a (tf : Nat → Int32) (lf : Nat → Int32) (po : Int32) (wo : Int32) (fr0 : Int32) (ch : Int32) : Nat → Int32 → Int32 → Bool
  | 0, _, _ => default
  | n_6 + 1, sa, wk => if (po - fr0) ≤ wk then (if sa = 0 then (false) else (if 5 ≤ (po - fr0) then (false) else (if (lf (((5 * wo) + po) - fr0).toNatClampNeg) = ch then (true) else (false)))) else (if sa = 0 then (kR_may_6a tf lf po wo fr0 ch n_6 (0) (wk + 1)) else (if (lf ((5 * wo) + wk).toNatClampNeg) = (tf (fr0 + wk).toNatClampNeg) then (kR_may_6a tf lf po wo fr0 ch n_6 (1) (wk + 1)) else (kR_may_6a tf lf po wo fr0 ch n_6 (0) (wk + 1))))
def fR_may (tf : Nat → Int32) (lf : Nat → Int32) (po : Int32) (wo : Int32) (fr0 : Int32) (ch : Int32) : Bool := kR_may_6a tf lf po wo fr0 ch 6 (1) (0)
set_option maxHeartbeats 4000000 in
set_option maxRecDepth 100000 in
theorem cR_may (l : Launch) {s0 : State} {dC : Nat → ClassId} {dI : Nat → Nat → Nat} {cI cC cL cO : ClassId} (E : xb_Env l s0 dC dI (xtys cI cC cL cO)) (h0 : Nat) (fs : List Value) (ta : Nat) (tf : Nat → Int32) (la : Nat) (lf : Nat → Int32) (po : Int32) (wo : Int32) (fr0 : Int32) (ch : Int32) (hf1 : fs[1]? = some (.ref ta)) (hf3 : fs[3]? = some (.int po)) (hf7 : fs[7]? = some (.ref la)) (hw : ∃ j : Nat, j < 7 ∧ wo = nI j) (hfp : ∃ a b : Nat, fr0 = nI a ∧ po = nI b ∧ a ≤ b ∧ b ≤ a + 5 ∧ b ≤ 200) : Met l yR_may [.code yR_may bR_may 6 (some (.boolean))] ({ frames := 0, cells := 0, slots := 0, locals := 0 }) (va_Pc [.ref h0, .int wo, .int fr0, .int ch] (fun U => xb_At s0 U ∧ va_P (dC, dI) classes [(h0, .inr (3, fs)), (ta, .inl (cI, 200, .inl tf)), (la, .inl (cI, 35, .inl lf))] U.heap)) (xb_R (some (.int (xb_bi (fR_may tf lf po wo fr0 ch))))) 0 0 (fun _ => False) := by
  refine Met.ofW (cc := bR_may) (maxL := 6) (ret := (some (.boolean))) (by decide) rfl ?_
  intro p e s m args below meth c s₁ B hml hv
  obtain ⟨rfl, hAt, hP⟩ := hv
  have hx := B.exec
  have hb := B.bytes
  have hr := B.returns
  have hts := xb_hts E hAt ([.ref h0, .int wo, .int fr0, .int ch] : List Value).toArray
  have hown : s.vm.findClass "NailRulesModel" = some m.cls := findClass_of_methodNamed B.named
  have hlocks := B.notSynchronized
  have hK := xb_K E hAt
  have hl := lv_entry ([.ref h0, .int wo, .int fr0, .int ch]) (n := 6) (Nat.le_of_ble_eq_true rfl)
  rw [lg_entry_eq]
  generalize (lg_sl ([.ref h0, .int wo, .int fr0, .int ch]) ++ List.replicate (6 - (lg_sl ([.ref h0, .int wo, .int fr0, .int ch])).length) Slot.unset).toArray = ls at hl ⊢
  have hl : lv_has ls 6 [(0, .ref h0), (1, .int wo), (2, .int fr0), (3, .int ch)] := hl
  refine lv_iconst (v := 1) hx hb dR_may_0 (by decide) ?_
  refine lv_istore (lv' := [(4, .int 1), (0, .ref h0), (1, .int wo), (2, .int fr0), (3, .int ch)]) hx hb dR_may_1 hl (by decide) rfl (fun ls hl => ?_)
  refine lv_iconst (v := 0) hx hb dR_may_3 (by decide) ?_
  refine lv_istore (lv' := [(5, .int 0), (4, .int 1), (0, .ref h0), (1, .int wo), (2, .int fr0), (3, .int ch)]) hx hb dR_may_4 hl (by decide) rfl (fun ls hl => ?_)
  have lp_6 : ∀ (n_6 : Nat) (sa : Int32) (wk : Int32), (xl_c 0 5 n_6 wk) → fR_may tf lf po wo fr0 ch = kR_may_6a tf lf po wo fr0 ch n_6 sa wk → ∀ ls : Array Slot, lv_has ls 6 [(4, .int sa), (5, .int wk), (0, .ref h0), (1, .int wo), (2, .int fr0), (3, .int ch)] → W p l e (headSpec [.code yR_may bR_may 6 (some (.boolean))] ({ frames := 0, cells := 0, slots := 0, locals := 0 })).room s m ([.ref h0, .int wo, .int fr0, .int ch] : List Value).toArray below meth c s.heap [] 0 0 (MQ below (xb_R (some (.int (xb_bi (fR_may tf lf po wo fr0 ch))))) ([.ref h0, .int wo, .int fr0, .int ch] : List Value).toArray s 0 0 (fun _ => False)) (F0 m 6 ls []) := by
    intro n_6
    induction n_6 with
    | zero =>
      intro sa wk hinv_6
      exact xl_0 hinv_6
    | succ n_6 ih_6 =>
      intro sa wk hinv_6 hres_6 ls hl
      refine lv_iload hx hb dR_may_6 (lv_at hl 1 rfl) ?_
      refine lv_aload_n hx hb dR_may_8 rfl (lv_at hl 2 rfl) ?_
      refine va_get (D := (dC, dI)) (ci := 3) (v := .int po) (C := xR_R) (T := xF_R) (N := 20) hx hb hts xi_R hown hK hP 0 rfl rfl 3 (by decide) (hts _ xk_649) (fun _ h9 => h9) hf3 dR_may_9 ?_
      refine lv_iload_n hx hb dR_may_12 rfl (lv_at hl 4 rfl) ?_
      refine lv_isub hx hb dR_may_13 ?_
      refine lv_icmp_ge (tgt := 58) hx hb dR_may_14 (by decide) (fun c_1 => ?_) (fun c_1 => ?_)
      · refine lv_iload hx hb dR_may_58 (lv_at hl 0 rfl) ?_
        refine lv_if_eq (tgt := 96) hx hb dR_may_60 (by decide) (fun c_2 => ?_) (fun c_2 => ?_)
        · refine lv_iconst (v := 0) hx hb dR_may_96 (by decide) ?_
          have e_f : fR_may tf lf po wo fr0 ch = false := hres_6.trans ((if_pos c_1).trans ((if_pos c_2).trans (rfl)))
          exact W.zret (v := 0) hx hb hr (by decide) (fun t ht hW => ⟨by rw [e_f]; try rfl, ht⟩) (fun _ h => by cases h) dR_may_97
        · refine lv_aload_n hx hb dR_may_63 rfl (lv_at hl 2 rfl) ?_
          refine va_get (D := (dC, dI)) (ci := 3) (v := .int po) (C := xR_R) (T := xF_R) (N := 20) hx hb hts xi_R hown hK hP 0 rfl rfl 3 (by decide) (hts _ xk_649) (fun _ h9 => h9) hf3 dR_may_64 ?_
          refine lv_iload_n hx hb dR_may_67 rfl (lv_at hl 4 rfl) ?_
          refine lv_isub hx hb dR_may_68 ?_
          refine lv_iconst (v := 5) hx hb dR_may_69 (by decide) ?_
          refine lv_icmp_ge (tgt := 96) hx hb dR_may_70 (by decide) (fun c_3 => ?_) (fun c_3 => ?_)
          · refine lv_iconst (v := 0) hx hb dR_may_96 (by decide) ?_
            have e_f : fR_may tf lf po wo fr0 ch = false := hres_6.trans ((if_pos c_1).trans ((if_neg c_2).trans ((if_pos c_3).trans (rfl))))
            exact W.zret (v := 0) hx hb hr (by decide) (fun t ht hW => ⟨by rw [e_f]; try rfl, ht⟩) (fun _ h => by cases h) dR_may_97
          · refine lv_aload_n hx hb dR_may_73 rfl (lv_at hl 2 rfl) ?_
            refine va_get (D := (dC, dI)) (ci := 3) (v := .ref la) (C := xR_R) (T := xF_R) (N := 20) hx hb hts xi_R hown hK hP 0 rfl rfl 7 (by decide) (hts _ xk_653) (fun _ h9 => h9) hf7 dR_may_74 ?_
            refine lv_iconst (v := 5) hx hb dR_may_77 (by decide) ?_
            refine lv_iload_n hx hb dR_may_78 rfl (lv_at hl 3 rfl) ?_
            refine lv_imul hx hb dR_may_79 ?_
            refine lv_aload_n hx hb dR_may_80 rfl (lv_at hl 2 rfl) ?_
            refine va_get (D := (dC, dI)) (ci := 3) (v := .int po) (C := xR_R) (T := xF_R) (N := 20) hx hb hts xi_R hown hK hP 0 rfl rfl 3 (by decide) (hts _ xk_649) (fun _ h9 => h9) hf3 dR_may_81 ?_
            refine lv_iadd hx hb dR_may_84 ?_
            refine lv_iload_n hx hb dR_may_85 rfl (lv_at hl 4 rfl) ?_
            refine lv_isub hx hb dR_may_86 ?_
            have o_4 : vp_in (((5 * wo) + po) - fr0) 35 := by exact xm_2 hw hfp (xm_4 c_3)
            refine va_iald hx hb hK hP 2 0 rfl rfl o_4 dR_may_87 ?_
            refine lv_iload_n hx hb dR_may_88 rfl (lv_at hl 5 rfl) ?_
            refine lv_icmp_ne (tgt := 96) hx hb dR_may_89 (by decide) (fun c_5 => ?_) (fun c_5 => ?_)
            · refine lv_iconst (v := 0) hx hb dR_may_96 (by decide) ?_
              have e_f : fR_may tf lf po wo fr0 ch = false := hres_6.trans ((if_pos c_1).trans ((if_neg c_2).trans ((if_neg c_3).trans ((if_neg c_5).trans (rfl)))))
              exact W.zret (v := 0) hx hb hr (by decide) (fun t ht hW => ⟨by rw [e_f]; try rfl, ht⟩) (fun _ h => by cases h) dR_may_97
            · refine lv_iconst (v := 1) hx hb dR_may_92 (by decide) ?_
              refine lv_goto (tgt := 97) hx hb dR_may_93 (by decide) ?_
              have e_f : fR_may tf lf po wo fr0 ch = true := hres_6.trans ((if_pos c_1).trans ((if_neg c_2).trans ((if_neg c_3).trans ((if_pos c_5).trans (rfl)))))
              exact W.zret (v := 1) hx hb hr (by decide) (fun t ht hW => ⟨by rw [e_f]; try rfl, ht⟩) (fun _ h => by cases h) dR_may_97
      · refine lv_iload hx hb dR_may_17 (lv_at hl 0 rfl) ?_
        refine lv_if_eq (tgt := 49) hx hb dR_may_19 (by decide) (fun c_6 => ?_) (fun c_6 => ?_)
        · refine lv_iconst (v := 0) hx hb dR_may_49 (by decide) ?_
          refine lv_istore (lv' := [(4, .int 0), (5, .int wk), (0, .ref h0), (1, .int wo), (2, .int fr0), (3, .int ch)]) hx hb dR_may_50 hl (by decide) rfl (fun ls hl => ?_)
          refine lv_iinc (v := wk + 1) (lv' := [(5, .int (wk + 1)), (4, .int 0), (0, .ref h0), (1, .int wo), (2, .int fr0), (3, .int ch)]) hx hb dR_may_52 hl (k := 1) rfl rfl (by decide) rfl (fun ls hl => ?_)
          refine lv_goto (tgt := 6) hx hb dR_may_55 (by decide) ?_
          have v_inv : xl_c 0 5 n_6 (wk + 1) := xl_s1 (b := po - fr0) hinv_6 (by decide) (xm_3 hfp) c_1
          have v_res : fR_may tf lf po wo fr0 ch = kR_may_6a tf lf po wo fr0 ch n_6 (0) (wk + 1) := hres_6.trans ((if_neg c_1).trans ((if_pos c_6).trans (rfl)))
          exact ih_6 (0) (wk + 1) v_inv v_res ls (lv_sub hl [1, 0, 2, 3, 4, 5] rfl)
        · refine lv_aload_n hx hb dR_may_22 rfl (lv_at hl 2 rfl) ?_
          refine va_get (D := (dC, dI)) (ci := 3) (v := .ref la) (C := xR_R) (T := xF_R) (N := 20) hx hb hts xi_R hown hK hP 0 rfl rfl 7 (by decide) (hts _ xk_653) (fun _ h9 => h9) hf7 dR_may_23 ?_
          refine lv_iconst (v := 5) hx hb dR_may_26 (by decide) ?_
          refine lv_iload_n hx hb dR_may_27 rfl (lv_at hl 3 rfl) ?_
          refine lv_imul hx hb dR_may_28 ?_
          refine lv_iload hx hb dR_may_29 (lv_at hl 1 rfl) ?_
          refine lv_iadd hx hb dR_may_31 ?_
          have o_7 : vp_in ((5 * wo) + wk) 35 := by exact (xm_1 hw hfp hinv_6 c_1).1
          refine va_iald hx hb hK hP 2 0 rfl rfl o_7 dR_may_32 ?_
          refine lv_aload_n hx hb dR_may_33 rfl (lv_at hl 2 rfl) ?_
          refine va_get (D := (dC, dI)) (ci := 3) (v := .ref ta) (C := xR_R) (T := xF_R) (N := 20) hx hb hts xi_R hown hK hP 0 rfl rfl 1 (by decide) (hts _ xk_647) (fun _ h9 => h9) hf1 dR_may_34 ?_
          refine lv_iload_n hx hb dR_may_37 rfl (lv_at hl 4 rfl) ?_
          refine lv_iload hx hb dR_may_38 (lv_at hl 1 rfl) ?_
          refine lv_iadd hx hb dR_may_40 ?_
          have o_8 : vp_in (fr0 + wk) 200 := by exact (xm_1 hw hfp hinv_6 c_1).2
          refine va_iald hx hb hK hP 1 0 rfl rfl o_8 dR_may_41 ?_
          refine lv_icmp_ne (tgt := 49) hx hb dR_may_42 (by decide) (fun c_9 => ?_) (fun c_9 => ?_)
          · refine lv_iconst (v := 0) hx hb dR_may_49 (by decide) ?_
            refine lv_istore (lv' := [(4, .int 0), (5, .int wk), (0, .ref h0), (1, .int wo), (2, .int fr0), (3, .int ch)]) hx hb dR_may_50 hl (by decide) rfl (fun ls hl => ?_)
            refine lv_iinc (v := wk + 1) (lv' := [(5, .int (wk + 1)), (4, .int 0), (0, .ref h0), (1, .int wo), (2, .int fr0), (3, .int ch)]) hx hb dR_may_52 hl (k := 1) rfl rfl (by decide) rfl (fun ls hl => ?_)
            refine lv_goto (tgt := 6) hx hb dR_may_55 (by decide) ?_
            have v_inv : xl_c 0 5 n_6 (wk + 1) := xl_s1 (b := po - fr0) hinv_6 (by decide) (xm_3 hfp) c_1
            have v_res : fR_may tf lf po wo fr0 ch = kR_may_6a tf lf po wo fr0 ch n_6 (0) (wk + 1) := hres_6.trans ((if_neg c_1).trans ((if_neg c_6).trans ((if_neg c_9).trans (rfl))))
            exact ih_6 (0) (wk + 1) v_inv v_res ls (lv_sub hl [1, 0, 2, 3, 4, 5] rfl)
          · refine lv_iconst (v := 1) hx hb dR_may_45 (by decide) ?_
            refine lv_goto (tgt := 50) hx hb dR_may_46 (by decide) ?_
            refine lv_istore (lv' := [(4, .int 1), (5, .int wk), (0, .ref h0), (1, .int wo), (2, .int fr0), (3, .int ch)]) hx hb dR_may_50 hl (by decide) rfl (fun ls hl => ?_)
            refine lv_iinc (v := wk + 1) (lv' := [(5, .int (wk + 1)), (4, .int 1), (0, .ref h0), (1, .int wo), (2, .int fr0), (3, .int ch)]) hx hb dR_may_52 hl (k := 1) rfl rfl (by decide) rfl (fun ls hl => ?_)
            refine lv_goto (tgt := 6) hx hb dR_may_55 (by decide) ?_
            have v_inv : xl_c 0 5 n_6 (wk + 1) := xl_s1 (b := po - fr0) hinv_6 (by decide) (xm_3 hfp) c_1
            have v_res : fR_may tf lf po wo fr0 ch = kR_may_6a tf lf po wo fr0 ch n_6 (1) (wk + 1) := hres_6.trans ((if_neg c_1).trans ((if_neg c_6).trans ((if_pos c_9).trans (rfl))))
            exact ih_6 (1) (wk + 1) v_inv v_res ls (lv_sub hl [1, 0, 2, 3, 4, 5] rfl)
  have v_inv : xl_c 0 5 6 (0 : Int32) := ⟨0, rfl, by omega, by omega, by omega⟩
  have v_res : fR_may tf lf po wo fr0 ch = kR_may_6a tf lf po wo fr0 ch 6 (1) (0) := rfl
  exact lp_6 6 (1) (0) v_inv v_res ls (lv_sub hl [1, 0, 2, 3, 4, 5] rfl)

def kR_whole_48a (tf : Nat → Int32) (lf : Nat → Int32) (po : Int32) (fr0 : Int32) (fo : Int32) (ww : Int32) (K_4 : (Int32 → Int32 → Int32)) : Nat → Int32 → Int32 → Int32
  | 0, _, _ => default
  | n_48 + 1, sa, wk => if (po - fr0) ≤ wk then (if sa = 0 then (K_4 fo (ww + 1)) else (K_4 ww (ww + 1))) else (if sa = 0 then (kR_whole_48a tf lf po fr0 fo ww K_4 n_48 (0) (wk + 1)) else (if (lf ((5 * ww) + wk).toNatClampNeg) = (tf (fr0 + wk).toNatClampNeg) then (kR_whole_48a tf lf po fr0 fo ww K_4 n_48 (1) (wk + 1)) else (kR_whole_48a tf lf po fr0 fo ww K_4 n_48 (0) (wk + 1))))
def kR_whole_48b (tf : Nat → Int32) (lf : Nat → Int32) (po : Int32) (fr0 : Int32) (fo : Int32) (ww : Int32) (K_4 : (Int32 → Int32 → Int32)) : Nat → Int32 → Int32 → Int32
  | 0, _, _ => default
  | n_48 + 1, sa, wk => if (po - fr0) ≤ wk then (if sa = 0 then (K_4 fo (ww + 1)) else (K_4 ww (ww + 1))) else (if sa = 0 then (kR_whole_48b tf lf po fr0 fo ww K_4 n_48 (0) (wk + 1)) else (if (lf ((5 * ww) + wk).toNatClampNeg) = (tf (fr0 + wk).toNatClampNeg) then (kR_whole_48b tf lf po fr0 fo ww K_4 n_48 (1) (wk + 1)) else (kR_whole_48b tf lf po fr0 fo ww K_4 n_48 (0) (wk + 1))))
def kR_whole_48c (tf : Nat → Int32) (lf : Nat → Int32) (po : Int32) (fr0 : Int32) (fo : Int32) (ww : Int32) (K_4 : (Int32 → Int32 → Int32)) : Nat → Int32 → Int32 → Int32
  | 0, _, _ => default
  | n_48 + 1, sa, wk => if (po - fr0) ≤ wk then (if sa = 0 then (K_4 fo (ww + 1)) else (K_4 ww (ww + 1))) else (if sa = 0 then (kR_whole_48c tf lf po fr0 fo ww K_4 n_48 (0) (wk + 1)) else (if (lf ((5 * ww) + wk).toNatClampNeg) = (tf (fr0 + wk).toNatClampNeg) then (kR_whole_48c tf lf po fr0 fo ww K_4 n_48 (1) (wk + 1)) else (kR_whole_48c tf lf po fr0 fo ww K_4 n_48 (0) (wk + 1))))
def kR_whole_4a (tf : Nat → Int32) (lf : Nat → Int32) (po : Int32) (fr0 : Int32) : Nat → Int32 → Int32 → Int32
  | 0, _, _ => default
  | n_4 + 1, fo, ww => if 7 ≤ ww then (fo) else (if (po - fr0) = 5 then (kR_whole_48a tf lf po fr0 fo ww (fun fo ww => kR_whole_4a tf lf po fr0 n_4 fo ww) 6 (1) (0)) else (if (lf (((5 * ww) + po) - fr0).toNatClampNeg) = 0 then (kR_whole_48c tf lf po fr0 fo ww (fun fo ww => kR_whole_4a tf lf po fr0 n_4 fo ww) 6 (1) (0)) else (kR_whole_48b tf lf po fr0 fo ww (fun fo ww => kR_whole_4a tf lf po fr0 n_4 fo ww) 6 (0) (0))))
def fR_whole (tf : Nat → Int32) (lf : Nat → Int32) (po : Int32) (fr0 : Int32) : Int32 := kR_whole_4a tf lf po fr0 8 ((-1)) (0)
set_option maxHeartbeats 4000000 in
set_option maxRecDepth 100000 in
theorem cR_whole (l : Launch) {s0 : State} {dC : Nat → ClassId} {dI : Nat → Nat → Nat} {cI cC cL cO : ClassId} (E : xb_Env l s0 dC dI (xtys cI cC cL cO)) (h0 : Nat) (fs : List Value) (ta : Nat) (tf : Nat → Int32) (la : Nat) (lf : Nat → Int32) (po : Int32) (fr0 : Int32) (hf1 : fs[1]? = some (.ref ta)) (hf3 : fs[3]? = some (.int po)) (hf7 : fs[7]? = some (.ref la)) (hfp : ∃ a b : Nat, fr0 = nI a ∧ po = nI b ∧ a ≤ b ∧ b ≤ a + 5 ∧ b ≤ 200) : Met l yR_whole [.code yR_whole bR_whole 6 (some (.int))] ({ frames := 0, cells := 0, slots := 0, locals := 0 }) (va_Pc [.ref h0, .int fr0] (fun U => xb_At s0 U ∧ va_P (dC, dI) classes [(h0, .inr (3, fs)), (ta, .inl (cI, 200, .inl tf)), (la, .inl (cI, 35, .inl lf))] U.heap)) (xb_R (some (.int (fR_whole tf lf po fr0)))) 0 0 (fun _ => False) := by
  refine Met.ofW (cc := bR_whole) (maxL := 6) (ret := (some (.int))) (by decide) rfl ?_
  intro p e s m args below meth c s₁ B hml hv
  obtain ⟨rfl, hAt, hP⟩ := hv
  have hx := B.exec
  have hb := B.bytes
  have hr := B.returns
  have hts := xb_hts E hAt ([.ref h0, .int fr0] : List Value).toArray
  have hown : s.vm.findClass "NailRulesModel" = some m.cls := findClass_of_methodNamed B.named
  have hlocks := B.notSynchronized
  have hK := xb_K E hAt
  have hl := lv_entry ([.ref h0, .int fr0]) (n := 6) (Nat.le_of_ble_eq_true rfl)
  rw [lg_entry_eq]
  generalize (lg_sl ([.ref h0, .int fr0]) ++ List.replicate (6 - (lg_sl ([.ref h0, .int fr0])).length) Slot.unset).toArray = ls at hl ⊢
  have hl : lv_has ls 6 [(0, .ref h0), (1, .int fr0)] := hl
  refine lv_iconst (v := (-1)) hx hb dR_whole_0 (by decide) ?_
  refine lv_istore_n (lv' := [(2, .int (-1)), (0, .ref h0), (1, .int fr0)]) hx hb dR_whole_1 rfl hl (by decide) rfl (fun ls hl => ?_)
  refine lv_iconst (v := 0) hx hb dR_whole_2 (by decide) ?_
  refine lv_istore_n (lv' := [(3, .int 0), (2, .int (-1)), (0, .ref h0), (1, .int fr0)]) hx hb dR_whole_3 rfl hl (by decide) rfl (fun ls hl => ?_)
  have lp_4 : ∀ (n_4 : Nat) (fo : Int32) (ww : Int32), (xl_c 0 7 n_4 ww) → fR_whole tf lf po fr0 = kR_whole_4a tf lf po fr0 n_4 fo ww → ∀ ls : Array Slot, lv_has ls 6 [(2, .int fo), (3, .int ww), (0, .ref h0), (1, .int fr0)] → W p l e (headSpec [.code yR_whole bR_whole 6 (some (.int))] ({ frames := 0, cells := 0, slots := 0, locals := 0 })).room s m ([.ref h0, .int fr0] : List Value).toArray below meth c s.heap [] 0 0 (MQ below (xb_R (some (.int (fR_whole tf lf po fr0)))) ([.ref h0, .int fr0] : List Value).toArray s 0 0 (fun _ => False)) (F0 m 4 ls []) := by
    intro n_4
    induction n_4 with
    | zero =>
      intro fo ww hinv_4
      exact xl_0 hinv_4
    | succ n_4 ih_4 =>
      intro fo ww hinv_4 hres_4 ls hl
      refine lv_iload_n hx hb dR_whole_4 rfl (lv_at hl 1 rfl) ?_
      refine lv_bipush (v := 7) hx hb dR_whole_5 (by decide) ?_
      refine lv_icmp_ge (tgt := 117) hx hb dR_whole_7 (by decide) (fun c_1 => ?_) (fun c_1 => ?_)
      · refine lv_iload_n hx hb dR_whole_117 rfl (lv_at hl 0 rfl) ?_
        have e_f : fR_whole tf lf po fr0 = fo := hres_4.trans ((if_pos c_1).trans (rfl))
        exact W.iret (v := fo) hx hb hr (fun t ht hW => ⟨by rw [e_f], ht⟩) (fun _ h => by cases h) dR_whole_118
      · refine lv_aload_n hx hb dR_whole_10 rfl (lv_at hl 2 rfl) ?_
        refine va_get (D := (dC, dI)) (ci := 3) (v := .int po) (C := xR_R) (T := xF_R) (N := 20) hx hb hts xi_R hown hK hP 0 rfl rfl 3 (by decide) (hts _ xk_649) (fun _ h9 => h9) hf3 dR_whole_11 ?_
        refine lv_iload_n hx hb dR_whole_14 rfl (lv_at hl 3 rfl) ?_
        refine lv_isub hx hb dR_whole_15 ?_
        refine lv_iconst (v := 5) hx hb dR_whole_16 (by decide) ?_
        refine lv_icmp_eq (tgt := 38) hx hb dR_whole_17 (by decide) (fun c_2 => ?_) (fun c_2 => ?_)
        · refine lv_iconst (v := 1) hx hb dR_whole_38 (by decide) ?_
          refine lv_goto (tgt := 43) hx hb dR_whole_39 (by decide) ?_
          refine lv_istore (lv' := [(4, .int 1), (2, .int fo), (3, .int ww), (0, .ref h0), (1, .int fr0)]) hx hb dR_whole_43 hl (by decide) rfl (fun ls hl => ?_)
          refine lv_iconst (v := 0) hx hb dR_whole_45 (by decide) ?_
          refine lv_istore (lv' := [(5, .int 0), (4, .int 1), (2, .int fo), (3, .int ww), (0, .ref h0), (1, .int fr0)]) hx hb dR_whole_46 hl (by decide) rfl (fun ls hl => ?_)
          have lp_48 : ∀ (n_48 : Nat) (sa : Int32) (wk : Int32), (xl_c 0 5 n_48 wk) → fR_whole tf lf po fr0 = kR_whole_48a tf lf po fr0 fo ww (fun fo ww => kR_whole_4a tf lf po fr0 n_4 fo ww) n_48 sa wk → ∀ ls : Array Slot, lv_has ls 6 [(4, .int sa), (5, .int wk), (2, .int fo), (3, .int ww), (0, .ref h0), (1, .int fr0)] → W p l e (headSpec [.code yR_whole bR_whole 6 (some (.int))] ({ frames := 0, cells := 0, slots := 0, locals := 0 })).room s m ([.ref h0, .int fr0] : List Value).toArray below meth c s.heap [] 0 0 (MQ below (xb_R (some (.int (fR_whole tf lf po fr0)))) ([.ref h0, .int fr0] : List Value).toArray s 0 0 (fun _ => False)) (F0 m 48 ls []) := by
            intro n_48
            induction n_48 with
            | zero =>
              intro sa wk hinv_48
              exact xl_0 hinv_48
            | succ n_48 ih_48 =>
              intro sa wk hinv_48 hres_48 ls hl
              refine lv_iload hx hb dR_whole_48 (lv_at hl 1 rfl) ?_
              refine lv_aload_n hx hb dR_whole_50 rfl (lv_at hl 4 rfl) ?_
              refine va_get (D := (dC, dI)) (ci := 3) (v := .int po) (C := xR_R) (T := xF_R) (N := 20) hx hb hts xi_R hown hK hP 0 rfl rfl 3 (by decide) (hts _ xk_649) (fun _ h9 => h9) hf3 dR_whole_51 ?_
              refine lv_iload_n hx hb dR_whole_54 rfl (lv_at hl 5 rfl) ?_
              refine lv_isub hx hb dR_whole_55 ?_
              refine lv_icmp_ge (tgt := 100) hx hb dR_whole_56 (by decide) (fun c_3 => ?_) (fun c_3 => ?_)
              · refine lv_iload hx hb dR_whole_100 (lv_at hl 0 rfl) ?_
                refine lv_if_eq (tgt := 109) hx hb dR_whole_102 (by decide) (fun c_4 => ?_) (fun c_4 => ?_)
                · refine lv_iload_n hx hb dR_whole_109 rfl (lv_at hl 2 rfl) ?_
                  refine lv_istore_n (lv' := [(2, .int fo), (4, .int sa), (5, .int wk), (3, .int ww), (0, .ref h0), (1, .int fr0)]) hx hb dR_whole_110 rfl hl (by decide) rfl (fun ls hl => ?_)
                  refine lv_iinc (v := ww + 1) (lv' := [(3, .int (ww + 1)), (2, .int fo), (4, .int sa), (5, .int wk), (0, .ref h0), (1, .int fr0)]) hx hb dR_whole_111 hl (k := 3) rfl rfl (by decide) rfl (fun ls hl => ?_)
                  refine lv_goto (tgt := 4) hx hb dR_whole_114 (by decide) ?_
                  have v_inv : xl_c 0 7 n_4 (ww + 1) := xl_s1 (b := 7) hinv_4 (by decide) (by decide) c_1
                  have v_res : fR_whole tf lf po fr0 = kR_whole_4a tf lf po fr0 n_4 fo (ww + 1) := hres_48.trans ((if_pos c_3).trans ((if_pos c_4).trans (rfl)))
                  exact ih_4 fo (ww + 1) v_inv v_res ls (lv_sub hl [1, 0, 4, 5] rfl)
                · refine lv_iload_n hx hb dR_whole_105 rfl (lv_at hl 3 rfl) ?_
                  refine lv_goto (tgt := 110) hx hb dR_whole_106 (by decide) ?_
                  refine lv_istore_n (lv' := [(2, .int ww), (4, .int sa), (5, .int wk), (3, .int ww), (0, .ref h0), (1, .int fr0)]) hx hb dR_whole_110 rfl hl (by decide) rfl (fun ls hl => ?_)
                  refine lv_iinc (v := ww + 1) (lv' := [(3, .int (ww + 1)), (2, .int ww), (4, .int sa), (5, .int wk), (0, .ref h0), (1, .int fr0)]) hx hb dR_whole_111 hl (k := 3) rfl rfl (by decide) rfl (fun ls hl => ?_)
                  refine lv_goto (tgt := 4) hx hb dR_whole_114 (by decide) ?_
                  have v_inv : xl_c 0 7 n_4 (ww + 1) := xl_s1 (b := 7) hinv_4 (by decide) (by decide) c_1
                  have v_res : fR_whole tf lf po fr0 = kR_whole_4a tf lf po fr0 n_4 ww (ww + 1) := hres_48.trans ((if_pos c_3).trans ((if_neg c_4).trans (rfl)))
                  exact ih_4 ww (ww + 1) v_inv v_res ls (lv_sub hl [1, 0, 4, 5] rfl)
              · refine lv_iload hx hb dR_whole_59 (lv_at hl 0 rfl) ?_
                refine lv_if_eq (tgt := 91) hx hb dR_whole_61 (by decide) (fun c_5 => ?_) (fun c_5 => ?_)
                · refine lv_iconst (v := 0) hx hb dR_whole_91 (by decide) ?_
                  refine lv_istore (lv' := [(4, .int 0), (5, .int wk), (2, .int fo), (3, .int ww), (0, .ref h0), (1, .int fr0)]) hx hb dR_whole_92 hl (by decide) rfl (fun ls hl => ?_)
                  refine lv_iinc (v := wk + 1) (lv' := [(5, .int (wk + 1)), (4, .int 0), (2, .int fo), (3, .int ww), (0, .ref h0), (1, .int fr0)]) hx hb dR_whole_94 hl (k := 1) rfl rfl (by decide) rfl (fun ls hl => ?_)
                  refine lv_goto (tgt := 48) hx hb dR_whole_97 (by decide) ?_
                  have v_inv : xl_c 0 5 n_48 (wk + 1) := xl_s1 (b := po - fr0) hinv_48 (by decide) (xm_3 hfp) c_3
                  have v_res : fR_whole tf lf po fr0 = kR_whole_48a tf lf po fr0 fo ww (fun fo ww => kR_whole_4a tf lf po fr0 n_4 fo ww) n_48 (0) (wk + 1) := hres_48.trans ((if_neg c_3).trans ((if_pos c_5).trans (rfl)))
                  exact ih_48 (0) (wk + 1) v_inv v_res ls (lv_sub hl [1, 0, 2, 3, 4, 5] rfl)
                · refine lv_aload_n hx hb dR_whole_64 rfl (lv_at hl 4 rfl) ?_
                  refine va_get (D := (dC, dI)) (ci := 3) (v := .ref la) (C := xR_R) (T := xF_R) (N := 20) hx hb hts xi_R hown hK hP 0 rfl rfl 7 (by decide) (hts _ xk_653) (fun _ h9 => h9) hf7 dR_whole_65 ?_
                  refine lv_iconst (v := 5) hx hb dR_whole_68 (by decide) ?_
                  refine lv_iload_n hx hb dR_whole_69 rfl (lv_at hl 3 rfl) ?_
                  refine lv_imul hx hb dR_whole_70 ?_
                  refine lv_iload hx hb dR_whole_71 (lv_at hl 1 rfl) ?_
                  refine lv_iadd hx hb dR_whole_73 ?_
                  have o_6 : vp_in ((5 * ww) + wk) 35 := by exact (xm_1 (xm_5 hinv_4 c_1) hfp hinv_48 c_3).1
                  refine va_iald hx hb hK hP 2 0 rfl rfl o_6 dR_whole_74 ?_
                  refine lv_aload_n hx hb dR_whole_75 rfl (lv_at hl 4 rfl) ?_
                  refine va_get (D := (dC, dI)) (ci := 3) (v := .ref ta) (C := xR_R) (T := xF_R) (N := 20) hx hb hts xi_R hown hK hP 0 rfl rfl 1 (by decide) (hts _ xk_647) (fun _ h9 => h9) hf1 dR_whole_76 ?_
                  refine lv_iload_n hx hb dR_whole_79 rfl (lv_at hl 5 rfl) ?_
                  refine lv_iload hx hb dR_whole_80 (lv_at hl 1 rfl) ?_
                  refine lv_iadd hx hb dR_whole_82 ?_
                  have o_7 : vp_in (fr0 + wk) 200 := by exact (xm_1 (xm_5 hinv_4 c_1) hfp hinv_48 c_3).2
                  refine va_iald hx hb hK hP 1 0 rfl rfl o_7 dR_whole_83 ?_
                  refine lv_icmp_ne (tgt := 91) hx hb dR_whole_84 (by decide) (fun c_8 => ?_) (fun c_8 => ?_)
                  · refine lv_iconst (v := 0) hx hb dR_whole_91 (by decide) ?_
                    refine lv_istore (lv' := [(4, .int 0), (5, .int wk), (2, .int fo), (3, .int ww), (0, .ref h0), (1, .int fr0)]) hx hb dR_whole_92 hl (by decide) rfl (fun ls hl => ?_)
                    refine lv_iinc (v := wk + 1) (lv' := [(5, .int (wk + 1)), (4, .int 0), (2, .int fo), (3, .int ww), (0, .ref h0), (1, .int fr0)]) hx hb dR_whole_94 hl (k := 1) rfl rfl (by decide) rfl (fun ls hl => ?_)
                    refine lv_goto (tgt := 48) hx hb dR_whole_97 (by decide) ?_
                    have v_inv : xl_c 0 5 n_48 (wk + 1) := xl_s1 (b := po - fr0) hinv_48 (by decide) (xm_3 hfp) c_3
                    have v_res : fR_whole tf lf po fr0 = kR_whole_48a tf lf po fr0 fo ww (fun fo ww => kR_whole_4a tf lf po fr0 n_4 fo ww) n_48 (0) (wk + 1) := hres_48.trans ((if_neg c_3).trans ((if_neg c_5).trans ((if_neg c_8).trans (rfl))))
                    exact ih_48 (0) (wk + 1) v_inv v_res ls (lv_sub hl [1, 0, 2, 3, 4, 5] rfl)
                  · refine lv_iconst (v := 1) hx hb dR_whole_87 (by decide) ?_
                    refine lv_goto (tgt := 92) hx hb dR_whole_88 (by decide) ?_
                    refine lv_istore (lv' := [(4, .int 1), (5, .int wk), (2, .int fo), (3, .int ww), (0, .ref h0), (1, .int fr0)]) hx hb dR_whole_92 hl (by decide) rfl (fun ls hl => ?_)
                    refine lv_iinc (v := wk + 1) (lv' := [(5, .int (wk + 1)), (4, .int 1), (2, .int fo), (3, .int ww), (0, .ref h0), (1, .int fr0)]) hx hb dR_whole_94 hl (k := 1) rfl rfl (by decide) rfl (fun ls hl => ?_)
                    refine lv_goto (tgt := 48) hx hb dR_whole_97 (by decide) ?_
                    have v_inv : xl_c 0 5 n_48 (wk + 1) := xl_s1 (b := po - fr0) hinv_48 (by decide) (xm_3 hfp) c_3
                    have v_res : fR_whole tf lf po fr0 = kR_whole_48a tf lf po fr0 fo ww (fun fo ww => kR_whole_4a tf lf po fr0 n_4 fo ww) n_48 (1) (wk + 1) := hres_48.trans ((if_neg c_3).trans ((if_neg c_5).trans ((if_pos c_8).trans (rfl))))
                    exact ih_48 (1) (wk + 1) v_inv v_res ls (lv_sub hl [1, 0, 2, 3, 4, 5] rfl)
          have v_inv : xl_c 0 5 6 (0 : Int32) := ⟨0, rfl, by omega, by omega, by omega⟩
          have v_res : fR_whole tf lf po fr0 = kR_whole_48a tf lf po fr0 fo ww (fun fo ww => kR_whole_4a tf lf po fr0 n_4 fo ww) 6 (1) (0) := hres_4.trans ((if_neg c_1).trans ((if_pos c_2).trans (rfl)))
          exact lp_48 6 (1) (0) v_inv v_res ls (lv_sub hl [1, 0, 2, 3, 4, 5] rfl)
        · refine lv_aload_n hx hb dR_whole_20 rfl (lv_at hl 2 rfl) ?_
          refine va_get (D := (dC, dI)) (ci := 3) (v := .ref la) (C := xR_R) (T := xF_R) (N := 20) hx hb hts xi_R hown hK hP 0 rfl rfl 7 (by decide) (hts _ xk_653) (fun _ h9 => h9) hf7 dR_whole_21 ?_
          refine lv_iconst (v := 5) hx hb dR_whole_24 (by decide) ?_
          refine lv_iload_n hx hb dR_whole_25 rfl (lv_at hl 1 rfl) ?_
          refine lv_imul hx hb dR_whole_26 ?_
          refine lv_aload_n hx hb dR_whole_27 rfl (lv_at hl 2 rfl) ?_
          refine va_get (D := (dC, dI)) (ci := 3) (v := .int po) (C := xR_R) (T := xF_R) (N := 20) hx hb hts xi_R hown hK hP 0 rfl rfl 3 (by decide) (hts _ xk_649) (fun _ h9 => h9) hf3 dR_whole_28 ?_
          refine lv_iadd hx hb dR_whole_31 ?_
          refine lv_iload_n hx hb dR_whole_32 rfl (lv_at hl 3 rfl) ?_
          refine lv_isub hx hb dR_whole_33 ?_
          have o_9 : vp_in (((5 * ww) + po) - fr0) 35 := by exact xm_2 (xm_5 hinv_4 c_1) hfp c_2
          refine va_iald hx hb hK hP 2 0 rfl rfl o_9 dR_whole_34 ?_
          refine lv_if_ne (tgt := 42) hx hb dR_whole_35 (by decide) (fun c_10 => ?_) (fun c_10 => ?_)
          · refine lv_iconst (v := 0) hx hb dR_whole_42 (by decide) ?_
            refine lv_istore (lv' := [(4, .int 0), (2, .int fo), (3, .int ww), (0, .ref h0), (1, .int fr0)]) hx hb dR_whole_43 hl (by decide) rfl (fun ls hl => ?_)
            refine lv_iconst (v := 0) hx hb dR_whole_45 (by decide) ?_
            refine lv_istore (lv' := [(5, .int 0), (4, .int 0), (2, .int fo), (3, .int ww), (0, .ref h0), (1, .int fr0)]) hx hb dR_whole_46 hl (by decide) rfl (fun ls hl => ?_)
            have lp_48 : ∀ (n_48 : Nat) (sa : Int32) (wk : Int32), (xl_c 0 5 n_48 wk) → fR_whole tf lf po fr0 = kR_whole_48b tf lf po fr0 fo ww (fun fo ww => kR_whole_4a tf lf po fr0 n_4 fo ww) n_48 sa wk → ∀ ls : Array Slot, lv_has ls 6 [(4, .int sa), (5, .int wk), (2, .int fo), (3, .int ww), (0, .ref h0), (1, .int fr0)] → W p l e (headSpec [.code yR_whole bR_whole 6 (some (.int))] ({ frames := 0, cells := 0, slots := 0, locals := 0 })).room s m ([.ref h0, .int fr0] : List Value).toArray below meth c s.heap [] 0 0 (MQ below (xb_R (some (.int (fR_whole tf lf po fr0)))) ([.ref h0, .int fr0] : List Value).toArray s 0 0 (fun _ => False)) (F0 m 48 ls []) := by
              intro n_48
              induction n_48 with
              | zero =>
                intro sa wk hinv_48
                exact xl_0 hinv_48
              | succ n_48 ih_48 =>
                intro sa wk hinv_48 hres_48 ls hl
                refine lv_iload hx hb dR_whole_48 (lv_at hl 1 rfl) ?_
                refine lv_aload_n hx hb dR_whole_50 rfl (lv_at hl 4 rfl) ?_
                refine va_get (D := (dC, dI)) (ci := 3) (v := .int po) (C := xR_R) (T := xF_R) (N := 20) hx hb hts xi_R hown hK hP 0 rfl rfl 3 (by decide) (hts _ xk_649) (fun _ h9 => h9) hf3 dR_whole_51 ?_
                refine lv_iload_n hx hb dR_whole_54 rfl (lv_at hl 5 rfl) ?_
                refine lv_isub hx hb dR_whole_55 ?_
                refine lv_icmp_ge (tgt := 100) hx hb dR_whole_56 (by decide) (fun c_11 => ?_) (fun c_11 => ?_)
                · refine lv_iload hx hb dR_whole_100 (lv_at hl 0 rfl) ?_
                  refine lv_if_eq (tgt := 109) hx hb dR_whole_102 (by decide) (fun c_12 => ?_) (fun c_12 => ?_)
                  · refine lv_iload_n hx hb dR_whole_109 rfl (lv_at hl 2 rfl) ?_
                    refine lv_istore_n (lv' := [(2, .int fo), (4, .int sa), (5, .int wk), (3, .int ww), (0, .ref h0), (1, .int fr0)]) hx hb dR_whole_110 rfl hl (by decide) rfl (fun ls hl => ?_)
                    refine lv_iinc (v := ww + 1) (lv' := [(3, .int (ww + 1)), (2, .int fo), (4, .int sa), (5, .int wk), (0, .ref h0), (1, .int fr0)]) hx hb dR_whole_111 hl (k := 3) rfl rfl (by decide) rfl (fun ls hl => ?_)
                    refine lv_goto (tgt := 4) hx hb dR_whole_114 (by decide) ?_
                    have v_inv : xl_c 0 7 n_4 (ww + 1) := xl_s1 (b := 7) hinv_4 (by decide) (by decide) c_1
                    have v_res : fR_whole tf lf po fr0 = kR_whole_4a tf lf po fr0 n_4 fo (ww + 1) := hres_48.trans ((if_pos c_11).trans ((if_pos c_12).trans (rfl)))
                    exact ih_4 fo (ww + 1) v_inv v_res ls (lv_sub hl [1, 0, 4, 5] rfl)
                  · refine lv_iload_n hx hb dR_whole_105 rfl (lv_at hl 3 rfl) ?_
                    refine lv_goto (tgt := 110) hx hb dR_whole_106 (by decide) ?_
                    refine lv_istore_n (lv' := [(2, .int ww), (4, .int sa), (5, .int wk), (3, .int ww), (0, .ref h0), (1, .int fr0)]) hx hb dR_whole_110 rfl hl (by decide) rfl (fun ls hl => ?_)
                    refine lv_iinc (v := ww + 1) (lv' := [(3, .int (ww + 1)), (2, .int ww), (4, .int sa), (5, .int wk), (0, .ref h0), (1, .int fr0)]) hx hb dR_whole_111 hl (k := 3) rfl rfl (by decide) rfl (fun ls hl => ?_)
                    refine lv_goto (tgt := 4) hx hb dR_whole_114 (by decide) ?_
                    have v_inv : xl_c 0 7 n_4 (ww + 1) := xl_s1 (b := 7) hinv_4 (by decide) (by decide) c_1
                    have v_res : fR_whole tf lf po fr0 = kR_whole_4a tf lf po fr0 n_4 ww (ww + 1) := hres_48.trans ((if_pos c_11).trans ((if_neg c_12).trans (rfl)))
                    exact ih_4 ww (ww + 1) v_inv v_res ls (lv_sub hl [1, 0, 4, 5] rfl)
                · refine lv_iload hx hb dR_whole_59 (lv_at hl 0 rfl) ?_
                  refine lv_if_eq (tgt := 91) hx hb dR_whole_61 (by decide) (fun c_13 => ?_) (fun c_13 => ?_)
                  · refine lv_iconst (v := 0) hx hb dR_whole_91 (by decide) ?_
                    refine lv_istore (lv' := [(4, .int 0), (5, .int wk), (2, .int fo), (3, .int ww), (0, .ref h0), (1, .int fr0)]) hx hb dR_whole_92 hl (by decide) rfl (fun ls hl => ?_)
                    refine lv_iinc (v := wk + 1) (lv' := [(5, .int (wk + 1)), (4, .int 0), (2, .int fo), (3, .int ww), (0, .ref h0), (1, .int fr0)]) hx hb dR_whole_94 hl (k := 1) rfl rfl (by decide) rfl (fun ls hl => ?_)
                    refine lv_goto (tgt := 48) hx hb dR_whole_97 (by decide) ?_
                    have v_inv : xl_c 0 5 n_48 (wk + 1) := xl_s1 (b := po - fr0) hinv_48 (by decide) (xm_3 hfp) c_11
                    have v_res : fR_whole tf lf po fr0 = kR_whole_48b tf lf po fr0 fo ww (fun fo ww => kR_whole_4a tf lf po fr0 n_4 fo ww) n_48 (0) (wk + 1) := hres_48.trans ((if_neg c_11).trans ((if_pos c_13).trans (rfl)))
                    exact ih_48 (0) (wk + 1) v_inv v_res ls (lv_sub hl [1, 0, 2, 3, 4, 5] rfl)
                  · refine lv_aload_n hx hb dR_whole_64 rfl (lv_at hl 4 rfl) ?_
                    refine va_get (D := (dC, dI)) (ci := 3) (v := .ref la) (C := xR_R) (T := xF_R) (N := 20) hx hb hts xi_R hown hK hP 0 rfl rfl 7 (by decide) (hts _ xk_653) (fun _ h9 => h9) hf7 dR_whole_65 ?_
                    refine lv_iconst (v := 5) hx hb dR_whole_68 (by decide) ?_
                    refine lv_iload_n hx hb dR_whole_69 rfl (lv_at hl 3 rfl) ?_
                    refine lv_imul hx hb dR_whole_70 ?_
                    refine lv_iload hx hb dR_whole_71 (lv_at hl 1 rfl) ?_
                    refine lv_iadd hx hb dR_whole_73 ?_
                    have o_14 : vp_in ((5 * ww) + wk) 35 := by exact (xm_1 (xm_5 hinv_4 c_1) hfp hinv_48 c_11).1
                    refine va_iald hx hb hK hP 2 0 rfl rfl o_14 dR_whole_74 ?_
                    refine lv_aload_n hx hb dR_whole_75 rfl (lv_at hl 4 rfl) ?_
                    refine va_get (D := (dC, dI)) (ci := 3) (v := .ref ta) (C := xR_R) (T := xF_R) (N := 20) hx hb hts xi_R hown hK hP 0 rfl rfl 1 (by decide) (hts _ xk_647) (fun _ h9 => h9) hf1 dR_whole_76 ?_
                    refine lv_iload_n hx hb dR_whole_79 rfl (lv_at hl 5 rfl) ?_
                    refine lv_iload hx hb dR_whole_80 (lv_at hl 1 rfl) ?_
                    refine lv_iadd hx hb dR_whole_82 ?_
                    have o_15 : vp_in (fr0 + wk) 200 := by exact (xm_1 (xm_5 hinv_4 c_1) hfp hinv_48 c_11).2
                    refine va_iald hx hb hK hP 1 0 rfl rfl o_15 dR_whole_83 ?_
                    refine lv_icmp_ne (tgt := 91) hx hb dR_whole_84 (by decide) (fun c_16 => ?_) (fun c_16 => ?_)
                    · refine lv_iconst (v := 0) hx hb dR_whole_91 (by decide) ?_
                      refine lv_istore (lv' := [(4, .int 0), (5, .int wk), (2, .int fo), (3, .int ww), (0, .ref h0), (1, .int fr0)]) hx hb dR_whole_92 hl (by decide) rfl (fun ls hl => ?_)
                      refine lv_iinc (v := wk + 1) (lv' := [(5, .int (wk + 1)), (4, .int 0), (2, .int fo), (3, .int ww), (0, .ref h0), (1, .int fr0)]) hx hb dR_whole_94 hl (k := 1) rfl rfl (by decide) rfl (fun ls hl => ?_)
                      refine lv_goto (tgt := 48) hx hb dR_whole_97 (by decide) ?_
                      have v_inv : xl_c 0 5 n_48 (wk + 1) := xl_s1 (b := po - fr0) hinv_48 (by decide) (xm_3 hfp) c_11
                      have v_res : fR_whole tf lf po fr0 = kR_whole_48b tf lf po fr0 fo ww (fun fo ww => kR_whole_4a tf lf po fr0 n_4 fo ww) n_48 (0) (wk + 1) := hres_48.trans ((if_neg c_11).trans ((if_neg c_13).trans ((if_neg c_16).trans (rfl))))
                      exact ih_48 (0) (wk + 1) v_inv v_res ls (lv_sub hl [1, 0, 2, 3, 4, 5] rfl)
                    · refine lv_iconst (v := 1) hx hb dR_whole_87 (by decide) ?_
                      refine lv_goto (tgt := 92) hx hb dR_whole_88 (by decide) ?_
                      refine lv_istore (lv' := [(4, .int 1), (5, .int wk), (2, .int fo), (3, .int ww), (0, .ref h0), (1, .int fr0)]) hx hb dR_whole_92 hl (by decide) rfl (fun ls hl => ?_)
                      refine lv_iinc (v := wk + 1) (lv' := [(5, .int (wk + 1)), (4, .int 1), (2, .int fo), (3, .int ww), (0, .ref h0), (1, .int fr0)]) hx hb dR_whole_94 hl (k := 1) rfl rfl (by decide) rfl (fun ls hl => ?_)
                      refine lv_goto (tgt := 48) hx hb dR_whole_97 (by decide) ?_
                      have v_inv : xl_c 0 5 n_48 (wk + 1) := xl_s1 (b := po - fr0) hinv_48 (by decide) (xm_3 hfp) c_11
                      have v_res : fR_whole tf lf po fr0 = kR_whole_48b tf lf po fr0 fo ww (fun fo ww => kR_whole_4a tf lf po fr0 n_4 fo ww) n_48 (1) (wk + 1) := hres_48.trans ((if_neg c_11).trans ((if_neg c_13).trans ((if_pos c_16).trans (rfl))))
                      exact ih_48 (1) (wk + 1) v_inv v_res ls (lv_sub hl [1, 0, 2, 3, 4, 5] rfl)
            have v_inv : xl_c 0 5 6 (0 : Int32) := ⟨0, rfl, by omega, by omega, by omega⟩
            have v_res : fR_whole tf lf po fr0 = kR_whole_48b tf lf po fr0 fo ww (fun fo ww => kR_whole_4a tf lf po fr0 n_4 fo ww) 6 (0) (0) := hres_4.trans ((if_neg c_1).trans ((if_neg c_2).trans ((if_neg c_10).trans (rfl))))
            exact lp_48 6 (0) (0) v_inv v_res ls (lv_sub hl [1, 0, 2, 3, 4, 5] rfl)
          · refine lv_iconst (v := 1) hx hb dR_whole_38 (by decide) ?_
            refine lv_goto (tgt := 43) hx hb dR_whole_39 (by decide) ?_
            refine lv_istore (lv' := [(4, .int 1), (2, .int fo), (3, .int ww), (0, .ref h0), (1, .int fr0)]) hx hb dR_whole_43 hl (by decide) rfl (fun ls hl => ?_)
            refine lv_iconst (v := 0) hx hb dR_whole_45 (by decide) ?_
            refine lv_istore (lv' := [(5, .int 0), (4, .int 1), (2, .int fo), (3, .int ww), (0, .ref h0), (1, .int fr0)]) hx hb dR_whole_46 hl (by decide) rfl (fun ls hl => ?_)
            have lp_48 : ∀ (n_48 : Nat) (sa : Int32) (wk : Int32), (xl_c 0 5 n_48 wk) → fR_whole tf lf po fr0 = kR_whole_48c tf lf po fr0 fo ww (fun fo ww => kR_whole_4a tf lf po fr0 n_4 fo ww) n_48 sa wk → ∀ ls : Array Slot, lv_has ls 6 [(4, .int sa), (5, .int wk), (2, .int fo), (3, .int ww), (0, .ref h0), (1, .int fr0)] → W p l e (headSpec [.code yR_whole bR_whole 6 (some (.int))] ({ frames := 0, cells := 0, slots := 0, locals := 0 })).room s m ([.ref h0, .int fr0] : List Value).toArray below meth c s.heap [] 0 0 (MQ below (xb_R (some (.int (fR_whole tf lf po fr0)))) ([.ref h0, .int fr0] : List Value).toArray s 0 0 (fun _ => False)) (F0 m 48 ls []) := by
              intro n_48
              induction n_48 with
              | zero =>
                intro sa wk hinv_48
                exact xl_0 hinv_48
              | succ n_48 ih_48 =>
                intro sa wk hinv_48 hres_48 ls hl
                refine lv_iload hx hb dR_whole_48 (lv_at hl 1 rfl) ?_
                refine lv_aload_n hx hb dR_whole_50 rfl (lv_at hl 4 rfl) ?_
                refine va_get (D := (dC, dI)) (ci := 3) (v := .int po) (C := xR_R) (T := xF_R) (N := 20) hx hb hts xi_R hown hK hP 0 rfl rfl 3 (by decide) (hts _ xk_649) (fun _ h9 => h9) hf3 dR_whole_51 ?_
                refine lv_iload_n hx hb dR_whole_54 rfl (lv_at hl 5 rfl) ?_
                refine lv_isub hx hb dR_whole_55 ?_
                refine lv_icmp_ge (tgt := 100) hx hb dR_whole_56 (by decide) (fun c_17 => ?_) (fun c_17 => ?_)
                · refine lv_iload hx hb dR_whole_100 (lv_at hl 0 rfl) ?_
                  refine lv_if_eq (tgt := 109) hx hb dR_whole_102 (by decide) (fun c_18 => ?_) (fun c_18 => ?_)
                  · refine lv_iload_n hx hb dR_whole_109 rfl (lv_at hl 2 rfl) ?_
                    refine lv_istore_n (lv' := [(2, .int fo), (4, .int sa), (5, .int wk), (3, .int ww), (0, .ref h0), (1, .int fr0)]) hx hb dR_whole_110 rfl hl (by decide) rfl (fun ls hl => ?_)
                    refine lv_iinc (v := ww + 1) (lv' := [(3, .int (ww + 1)), (2, .int fo), (4, .int sa), (5, .int wk), (0, .ref h0), (1, .int fr0)]) hx hb dR_whole_111 hl (k := 3) rfl rfl (by decide) rfl (fun ls hl => ?_)
                    refine lv_goto (tgt := 4) hx hb dR_whole_114 (by decide) ?_
                    have v_inv : xl_c 0 7 n_4 (ww + 1) := xl_s1 (b := 7) hinv_4 (by decide) (by decide) c_1
                    have v_res : fR_whole tf lf po fr0 = kR_whole_4a tf lf po fr0 n_4 fo (ww + 1) := hres_48.trans ((if_pos c_17).trans ((if_pos c_18).trans (rfl)))
                    exact ih_4 fo (ww + 1) v_inv v_res ls (lv_sub hl [1, 0, 4, 5] rfl)
                  · refine lv_iload_n hx hb dR_whole_105 rfl (lv_at hl 3 rfl) ?_
                    refine lv_goto (tgt := 110) hx hb dR_whole_106 (by decide) ?_
                    refine lv_istore_n (lv' := [(2, .int ww), (4, .int sa), (5, .int wk), (3, .int ww), (0, .ref h0), (1, .int fr0)]) hx hb dR_whole_110 rfl hl (by decide) rfl (fun ls hl => ?_)
                    refine lv_iinc (v := ww + 1) (lv' := [(3, .int (ww + 1)), (2, .int ww), (4, .int sa), (5, .int wk), (0, .ref h0), (1, .int fr0)]) hx hb dR_whole_111 hl (k := 3) rfl rfl (by decide) rfl (fun ls hl => ?_)
                    refine lv_goto (tgt := 4) hx hb dR_whole_114 (by decide) ?_
                    have v_inv : xl_c 0 7 n_4 (ww + 1) := xl_s1 (b := 7) hinv_4 (by decide) (by decide) c_1
                    have v_res : fR_whole tf lf po fr0 = kR_whole_4a tf lf po fr0 n_4 ww (ww + 1) := hres_48.trans ((if_pos c_17).trans ((if_neg c_18).trans (rfl)))
                    exact ih_4 ww (ww + 1) v_inv v_res ls (lv_sub hl [1, 0, 4, 5] rfl)
                · refine lv_iload hx hb dR_whole_59 (lv_at hl 0 rfl) ?_
                  refine lv_if_eq (tgt := 91) hx hb dR_whole_61 (by decide) (fun c_19 => ?_) (fun c_19 => ?_)
                  · refine lv_iconst (v := 0) hx hb dR_whole_91 (by decide) ?_
                    refine lv_istore (lv' := [(4, .int 0), (5, .int wk), (2, .int fo), (3, .int ww), (0, .ref h0), (1, .int fr0)]) hx hb dR_whole_92 hl (by decide) rfl (fun ls hl => ?_)
                    refine lv_iinc (v := wk + 1) (lv' := [(5, .int (wk + 1)), (4, .int 0), (2, .int fo), (3, .int ww), (0, .ref h0), (1, .int fr0)]) hx hb dR_whole_94 hl (k := 1) rfl rfl (by decide) rfl (fun ls hl => ?_)
                    refine lv_goto (tgt := 48) hx hb dR_whole_97 (by decide) ?_
                    have v_inv : xl_c 0 5 n_48 (wk + 1) := xl_s1 (b := po - fr0) hinv_48 (by decide) (xm_3 hfp) c_17
                    have v_res : fR_whole tf lf po fr0 = kR_whole_48c tf lf po fr0 fo ww (fun fo ww => kR_whole_4a tf lf po fr0 n_4 fo ww) n_48 (0) (wk + 1) := hres_48.trans ((if_neg c_17).trans ((if_pos c_19).trans (rfl)))
                    exact ih_48 (0) (wk + 1) v_inv v_res ls (lv_sub hl [1, 0, 2, 3, 4, 5] rfl)
                  · refine lv_aload_n hx hb dR_whole_64 rfl (lv_at hl 4 rfl) ?_
                    refine va_get (D := (dC, dI)) (ci := 3) (v := .ref la) (C := xR_R) (T := xF_R) (N := 20) hx hb hts xi_R hown hK hP 0 rfl rfl 7 (by decide) (hts _ xk_653) (fun _ h9 => h9) hf7 dR_whole_65 ?_
                    refine lv_iconst (v := 5) hx hb dR_whole_68 (by decide) ?_
                    refine lv_iload_n hx hb dR_whole_69 rfl (lv_at hl 3 rfl) ?_
                    refine lv_imul hx hb dR_whole_70 ?_
                    refine lv_iload hx hb dR_whole_71 (lv_at hl 1 rfl) ?_
                    refine lv_iadd hx hb dR_whole_73 ?_
                    have o_20 : vp_in ((5 * ww) + wk) 35 := by exact (xm_1 (xm_5 hinv_4 c_1) hfp hinv_48 c_17).1
                    refine va_iald hx hb hK hP 2 0 rfl rfl o_20 dR_whole_74 ?_
                    refine lv_aload_n hx hb dR_whole_75 rfl (lv_at hl 4 rfl) ?_
                    refine va_get (D := (dC, dI)) (ci := 3) (v := .ref ta) (C := xR_R) (T := xF_R) (N := 20) hx hb hts xi_R hown hK hP 0 rfl rfl 1 (by decide) (hts _ xk_647) (fun _ h9 => h9) hf1 dR_whole_76 ?_
                    refine lv_iload_n hx hb dR_whole_79 rfl (lv_at hl 5 rfl) ?_
                    refine lv_iload hx hb dR_whole_80 (lv_at hl 1 rfl) ?_
                    refine lv_iadd hx hb dR_whole_82 ?_
                    have o_21 : vp_in (fr0 + wk) 200 := by exact (xm_1 (xm_5 hinv_4 c_1) hfp hinv_48 c_17).2
                    refine va_iald hx hb hK hP 1 0 rfl rfl o_21 dR_whole_83 ?_
                    refine lv_icmp_ne (tgt := 91) hx hb dR_whole_84 (by decide) (fun c_22 => ?_) (fun c_22 => ?_)
                    · refine lv_iconst (v := 0) hx hb dR_whole_91 (by decide) ?_
                      refine lv_istore (lv' := [(4, .int 0), (5, .int wk), (2, .int fo), (3, .int ww), (0, .ref h0), (1, .int fr0)]) hx hb dR_whole_92 hl (by decide) rfl (fun ls hl => ?_)
                      refine lv_iinc (v := wk + 1) (lv' := [(5, .int (wk + 1)), (4, .int 0), (2, .int fo), (3, .int ww), (0, .ref h0), (1, .int fr0)]) hx hb dR_whole_94 hl (k := 1) rfl rfl (by decide) rfl (fun ls hl => ?_)
                      refine lv_goto (tgt := 48) hx hb dR_whole_97 (by decide) ?_
                      have v_inv : xl_c 0 5 n_48 (wk + 1) := xl_s1 (b := po - fr0) hinv_48 (by decide) (xm_3 hfp) c_17
                      have v_res : fR_whole tf lf po fr0 = kR_whole_48c tf lf po fr0 fo ww (fun fo ww => kR_whole_4a tf lf po fr0 n_4 fo ww) n_48 (0) (wk + 1) := hres_48.trans ((if_neg c_17).trans ((if_neg c_19).trans ((if_neg c_22).trans (rfl))))
                      exact ih_48 (0) (wk + 1) v_inv v_res ls (lv_sub hl [1, 0, 2, 3, 4, 5] rfl)
                    · refine lv_iconst (v := 1) hx hb dR_whole_87 (by decide) ?_
                      refine lv_goto (tgt := 92) hx hb dR_whole_88 (by decide) ?_
                      refine lv_istore (lv' := [(4, .int 1), (5, .int wk), (2, .int fo), (3, .int ww), (0, .ref h0), (1, .int fr0)]) hx hb dR_whole_92 hl (by decide) rfl (fun ls hl => ?_)
                      refine lv_iinc (v := wk + 1) (lv' := [(5, .int (wk + 1)), (4, .int 1), (2, .int fo), (3, .int ww), (0, .ref h0), (1, .int fr0)]) hx hb dR_whole_94 hl (k := 1) rfl rfl (by decide) rfl (fun ls hl => ?_)
                      refine lv_goto (tgt := 48) hx hb dR_whole_97 (by decide) ?_
                      have v_inv : xl_c 0 5 n_48 (wk + 1) := xl_s1 (b := po - fr0) hinv_48 (by decide) (xm_3 hfp) c_17
                      have v_res : fR_whole tf lf po fr0 = kR_whole_48c tf lf po fr0 fo ww (fun fo ww => kR_whole_4a tf lf po fr0 n_4 fo ww) n_48 (1) (wk + 1) := hres_48.trans ((if_neg c_17).trans ((if_neg c_19).trans ((if_pos c_22).trans (rfl))))
                      exact ih_48 (1) (wk + 1) v_inv v_res ls (lv_sub hl [1, 0, 2, 3, 4, 5] rfl)
            have v_inv : xl_c 0 5 6 (0 : Int32) := ⟨0, rfl, by omega, by omega, by omega⟩
            have v_res : fR_whole tf lf po fr0 = kR_whole_48c tf lf po fr0 fo ww (fun fo ww => kR_whole_4a tf lf po fr0 n_4 fo ww) 6 (1) (0) := hres_4.trans ((if_neg c_1).trans ((if_neg c_2).trans ((if_pos c_10).trans (rfl))))
            exact lp_48 6 (1) (0) v_inv v_res ls (lv_sub hl [1, 0, 2, 3, 4, 5] rfl)
  have v_inv : xl_c 0 7 8 (0 : Int32) := ⟨0, rfl, by omega, by omega, by omega⟩
  have v_res : fR_whole tf lf po fr0 = kR_whole_4a tf lf po fr0 8 ((-1)) (0) := rfl
  exact lp_4 8 ((-1)) (0) v_inv v_res ls (lv_sub hl [1, 0, 2, 3] rfl)
