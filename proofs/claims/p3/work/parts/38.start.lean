/-! the environment at the law's entry -/
theorem xe_arr {args : Array Value} {s : State} {ty : FieldType} (hp : xa_prim ty = true) (h : (Cond.arrayClass ty).before args s = true) : ∃ cA : ClassId, ArrOfT s cA ty ∧ va_RA s cA ty := by
  obtain ⟨c, k, comp, h1, h2, h3⟩ := Cond.arrayClass_spec h
  refine ⟨c, fun n z => ⟨(fun q hq => by cases hq), k, h2, comp, h3⟩, ?_⟩
  cases ty <;> first | exact h1 | (simp [xa_prim] at hp)
theorem xe_obj {args : Array Value} {s : State} {C : String} (h : (Cond.arrayOver (.object C)).before args s = true) : ∃ cA : ClassId, ArrOfT s cA (.object C) ∧ va_RA s cA (.object C) := by
  obtain ⟨comp, c, k, h1, h2, h3, h4, h5⟩ := Cond.arrayOver_spec h
  exact ⟨c, fun n z => ⟨(fun q hq => by cases hq), k, h3, comp, h4⟩, k, comp, h3, h4, h1, h5⟩
abbrev xe_tm (i : Nat) : Term := .string "NailRules" (xs_ix.getD i 0)
theorem xe_1 : ∀ i, i < 7 → Cond.exactly (xe_tm i) "java/lang/String" ∈ xt_nar := by decide +kernel
theorem xe_2 : ∀ i, i < 7 → Cond.eq (.field (xe_tm i) "java/lang/String" "coder" "B") (.int 0) ∈ xt_nar := by decide +kernel
theorem xe_3 : ∀ i, i < 7 → Cond.arrayOf (.field (xe_tm i) "java/lang/String" "value" "[B") .byte ∈ xt_nar := by decide +kernel
theorem xe_4 : ∀ i, i < 7 → Cond.eq (.length (.field (xe_tm i) "java/lang/String" "value" "[B")) (.int (Int32.ofNat (xs_len.getD i 0))) ∈ xt_nar := by decide +kernel
theorem xe_5 : ∀ i, i < 7 → ∀ j, j < xs_len.getD i 0 → Cond.eq (.elem (.field (xe_tm i) "java/lang/String" "value" "[B") (.int (Int32.ofNat j))) (.int ((xs_byt.getD i []).getD j 0)) ∈ xt_nar := by decide +kernel
theorem xe_6 : ∀ i, i < 7 → ∀ j, j < 7 → i ≠ j → Cond.not (.eq (xe_tm i) (xe_tm j)) ∈ xt_nar ∨ Cond.not (.eq (xe_tm j) (xe_tm i)) ∈ xt_nar := by decide +kernel
theorem xe_7 : ∀ i, i < 7 → Cond.stringRef "NailRules" (xs_ix.getD i 0) (xs_tx.getD i "") ∈ lw_tbl := by decide +kernel
theorem xe_8 : Cond.arrayOf (.static "java/util/ArrayList" "DEFAULTCAPACITY_EMPTY_ELEMENTDATA" "[Ljava/lang/Object;") (.object "java/lang/Object") ∈ xt_nar := by decide +kernel
theorem xe_9 : Cond.eq (.length (.static "java/util/ArrayList" "DEFAULTCAPACITY_EMPTY_ELEMENTDATA" "[Ljava/lang/Object;")) (.int 0) ∈ xt_nar := by decide +kernel
theorem xe_10 : Cond.laysStatic "java/util/ArrayList" "DEFAULTCAPACITY_EMPTY_ELEMENTDATA" "[Ljava/lang/Object;" ∈ lw_tbl := by decide +kernel
theorem xe_11 : Cond.eq (.static "java/lang/String" "COMPACT_STRINGS" "Z") (.int 1) ∈ xt_nar := by decide +kernel
theorem xe_12 : Cond.laysStatic "java/lang/String" "COMPACT_STRINGS" "Z" ∈ lw_tbl := by decide +kernel
theorem xe_13 : Cond.isRef (.static "jdk/internal/util/Preconditions" "SIOOBE_FORMATTER" "Ljava/util/function/BiFunction;") ∈ xt_nar := by decide +kernel
theorem xe_14 : Cond.laysStatic "jdk/internal/util/Preconditions" "SIOOBE_FORMATTER" "Ljava/util/function/BiFunction;" ∈ lw_tbl := by decide +kernel
theorem xe_15 : Cond.initialized "java/util/ArrayList" ∈ lw_tbl ∧ Cond.initialized "java/lang/String" ∈ lw_tbl ∧ Cond.initialized "jdk/internal/util/Preconditions" ∈ lw_tbl := by decide +kernel
theorem xe_16 : Cond.arrayClass .int ∈ lw_tbl ∧ Cond.arrayClass .char ∈ lw_tbl ∧ Cond.arrayClass .long ∈ lw_tbl ∧ Cond.arrayOver (.object "java/lang/Object") ∈ lw_tbl := by decide +kernel
theorem xe_17 : Cond.instantiable xR_N 11 ∈ lw_tbl ∧ Cond.instantiable xR_T 3 ∈ lw_tbl ∧ Cond.instantiable xR_M 5 ∈ lw_tbl ∧ Cond.instantiable xR_R 20 ∈ lw_tbl ∧ Cond.instantiable xR_A 3 ∈ lw_tbl := by decide +kernel
theorem xe_V {args : Array Value} {s : State} (hts : ∀ w ∈ lw_tbl, w.before args s = true) (hg : (Jvm.Cond.and given_1 narrow_1).before args s = true) : ∃ adK adV : Nat → Nat, xs_V s adK adV := by
  have hn := flat_of_before _ hg
  have hA : ∀ a : Nat, a < s.heap.size → ¬ xa_A s a := fun a h => Nat.not_le.mpr h
  obtain ⟨adK, adV, h1, h2⟩ := vk_Sof (args := args) (s := s) (N := 7) (tm := xe_tm) (len := xs_len) (byt := xs_byt) (A := xa_A s) (by decide) (fun i hi => hn _ (xe_1 i hi)) (fun i hi => hn _ (xe_2 i hi)) (fun i hi => hn _ (xe_3 i hi)) (fun i hi => hn _ (xe_4 i hi)) (fun i hi j hj => hn _ (xe_5 i hi j hj)) (fun i j hi hj e => (xe_6 i hi j hj e).elim (fun h => Or.inl (hn _ h)) (fun h => Or.inr (hn _ h))) hA
  exact ⟨adK, adV, h1, fun i hi => vk_R.of (hts _ (xe_7 i hi)) (h2 i hi), va_Zof (hts _ xe_12) (hts _ xe_15.2.1) (va_eqi (hn _ xe_11)) hA, va_Zqof (hts _ xe_14) (hts _ xe_15.2.2) (hn _ xe_13) hA⟩
theorem xe_Z {args : Array Value} {s : State} (hts : ∀ w ∈ lw_tbl, w.before args s = true) (hg : (Jvm.Cond.and given_1 narrow_1).before args s = true) : ∃ d0 : Nat, xa_D s d0 := by
  have hn := flat_of_before _ hg
  have hA : ∀ a : Nat, a < s.heap.size → ¬ xa_A s a := fun a h => Nat.not_le.mpr h
  obtain ⟨d0, h1, h2⟩ := va_Tof (f := fun _ => .null) (A := xa_A s) (N := 0) (by decide) (hn _ xe_8) (va_eqt (hn _ xe_9)) (fun j hj => absurd hj (Nat.not_lt_zero j)) hA
  exact ⟨d0, va_Zof (hts _ xe_10) (hts _ xe_15.1) h1 hA, h2⟩
theorem xe_E {args : Array Value} {s : State} {l : Launch} (hf : l.flags = flags0) (hts : ∀ w ∈ lw_tbl, w.before args s = true) (hg : (Jvm.Cond.and given_1 narrow_1).before args s = true) : ∃ (dC : Nat → ClassId) (dI : Nat → Nat → Nat) (cI cC cL cO : ClassId), xb_Env l s dC dI (xtys cI cC cL cO) := by
  have hgd : ∀ w ∈ lw_gd, w.before args s = true := fun w hw => hts w (List.mem_filter.mp hw).1
  obtain ⟨c0, i0, h0⟩ := u_known (C := xR_N) (T := xF_N) (N := 11) (n := 11) hgd xi_N (hts _ xe_17.1)
  obtain ⟨c1, i1, h1⟩ := u_known (C := xR_T) (T := xF_T) (N := 3) (n := 3) hgd xi_T (hts _ xe_17.2.1)
  obtain ⟨c2, i2, h2⟩ := u_known (C := xR_M) (T := xF_M) (N := 5) (n := 5) hgd xi_M (hts _ xe_17.2.2.1)
  obtain ⟨c3, i3, h3⟩ := u_known (C := xR_R) (T := xF_R) (N := 20) (n := 20) hgd xi_R (hts _ xe_17.2.2.2.1)
  obtain ⟨c4, i4, h4⟩ := u_known (C := xR_A) (T := xF_A) (N := 3) (n := 3) hgd xi_A (hts _ xe_17.2.2.2.2)
  obtain ⟨cI, a1⟩ := xe_arr rfl (hts _ xe_16.1)
  obtain ⟨cC, a2⟩ := xe_arr rfl (hts _ xe_16.2.1)
  obtain ⟨cL, a3⟩ := xe_arr rfl (hts _ xe_16.2.2.1)
  obtain ⟨cO, a4⟩ := xe_obj (hts _ xe_16.2.2.2)
  refine ⟨fun k => match k with | 0 => c0 | 1 => c1 | 2 => c2 | 3 => c3 | _ => c4, fun k => match k with | 0 => i0 | 1 => i1 | 2 => i2 | 3 => i3 | _ => i4, cI, cC, cL, cO, hf, ⟨args, hts, hg⟩, ?_, ?_⟩
  · intro k q hq
    match k, hq with
    | 0, hq => cases hq; exact h0
    | 1, hq => cases hq; exact h1
    | 2, hq => cases hq; exact h2
    | 3, hq => cases hq; exact h3
    | 4, hq => cases hq; exact h4
    | k + 5, hq => simp [classes] at hq
  · intro k q hq
    match k, hq with
    | 0, hq => cases hq; exact a1
    | 1, hq => cases hq; exact a2
    | 2, hq => cases hq; exact a3
    | 3, hq => cases hq; exact a4
    | k + 4, hq => simp [xtys] at hq
