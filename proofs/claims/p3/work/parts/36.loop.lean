theorem lw_lt {L j : Nat} (hL : L ≤ 3584) (hj : 7 * j ≤ L) (c : ¬ (Int32.ofNat L - 7) < nI (7 * j)) : 7 * j + 7 ≤ L := by
  have e : (Int32.ofNat L - 7).toInt = (L : Int) - 7 := pk_sub_toInt (a := L) (b := 7) (by omega) (by decide)
  rw [Int32.lt_iff_toInt_lt, e, nI_toInt (by omega)] at c
  omega
theorem lw_in {L j k : Nat} (hL : L ≤ 3584) (h : 7 * j + 7 ≤ L) (hk : k < 7) : vp_in (nI (7 * j) + nI k) L := by
  rw [nI_add]
  exact vp_in_nI (by omega) (by omega)
set_option maxHeartbeats 8000000 in
set_option maxRecDepth 100000 in
theorem lw_loop {p : Program} {l : Launch} {e : Env} {s : State} {m : MethodId} {below : List Frame} {meth : Method} {c : Code} {b L : Nat} {xs : Nat → Int32} {dC : Nat → ClassId} {dI : Nat → Nat → Nat} {cI cC cL cO : ClassId} {adK adV : Nat → Nat} {d0 : Nat} (C0 : lw_At p s m meth c b L xs) (E : xb_Env l s dC dI (xtys cI cC cL cO)) (hV : xs_V s adK adV) (hZ : xa_D s d0) (Q : XQ) (hL : L ≤ 3584) : ∀ (n j : Nat) (v : XV), 7 * j ≤ L → L + 7 ≤ 7 * j + 7 * n → xu_I d0 v → ∀ (H : Heap) (locs : List Loc) (ls : Array Slot), va_P (dC, dI) classes (xu_W cI cC cL Q v) H → va_D (xa_A s) (xu_W cI cC cL Q v) → xtl_T (dC, dI) (xa_A s) (xu_W cI cC cL Q v) (xu_T cO v) H → va_S (xa_A s) s.heap H locs → lv_has ls 8 [(0, .ref b), (1, .ref Q.n), (2, .ref Q.m), (3, .ref Q.o), (4, .int (nI (7 * j)))] → W p l e room_1 s m #[Value.ref b] below meth c H locs (20 + 2 * j) (939 + 20 * j) (lw_Z below #[Value.ref b] s) (F0 m 23 ls []) := by
  obtain ⟨hx, hb, hr, hml, hown, -, hX, hbl, hlocks, -⟩ := id C0
  have hbA : ¬ xa_A s b := Nat.not_le.mpr hbl
  intro n
  induction n with
  | zero => intro j v h1 h2; omega
  | succ n ih =>
    intro j v hj hn hI H locs ls hP hD hT hS hl
    obtain ⟨x4, ex4⟩ : ∃ y : Int32, y = nI (7 * j) := ⟨_, rfl⟩
    rw [← ex4] at hl
    refine lv_iload hx hb dL_law_23 (lv_at hl 4 rfl) ?_
    refine lv_aload_n hx hb dL_law_25 rfl (lv_at hl 0 rfl) ?_
    refine va_slen hx hb hX hbl hbA hS dL_law_26 ?_
    refine lv_bipush (v := 7) hx hb dL_law_27 (by decide) ?_
    refine lv_isub hx hb dL_law_29 ?_
    refine lv_icmp_gt (tgt := 990) hx hb dL_law_30 (by decide) (fun c_1 => ?_) (fun c_1 => ?_)
    · refine lv_iconst (v := 1) hx hb dL_law_990 (by decide) ?_
      refine va_forget (fun q hq => hS.2.2 q hq) ?_
      refine W.widen (k := 601024) (n := 7293034) (by omega) (by omega) ?_
      exact lw_ret hx hb hr hlocks dL_law_991
    rw [ex4] at c_1
    have hlt := lw_lt hL hj c_1
    have h_0 : vp_in x4 L := by rw [ex4]; exact vp_in_nI (by omega) (by omega)
    have h_1 : vp_in (x4 + 1) L := by rw [ex4]; exact lw_in (k := 1) hL hlt (by decide)
    have h_2 : vp_in (x4 + 2) L := by rw [ex4]; exact lw_in (k := 2) hL hlt (by decide)
    have h_3 : vp_in (x4 + 3) L := by rw [ex4]; exact lw_in (k := 3) hL hlt (by decide)
    have h_4 : vp_in (x4 + 4) L := by rw [ex4]; exact lw_in (k := 4) hL hlt (by decide)
    have h_5 : vp_in (x4 + 5) L := by rw [ex4]; exact lw_in (k := 5) hL hlt (by decide)
    have h_6 : vp_in (x4 + 6) L := by rw [ex4]; exact lw_in (k := 6) hL hlt (by decide)
    have K : ∀ (v' : XV), xu_I d0 v' → ∀ (H : Heap) (locs : List Loc) (ls : Array Slot), va_P (dC, dI) classes (xu_W cI cC cL Q v') H → va_D (xa_A s) (xu_W cI cC cL Q v') → xtl_T (dC, dI) (xa_A s) (xu_W cI cC cL Q v') (xu_T cO v') H → va_S (xa_A s) s.heap H locs → lv_has ls 8 [(0, .ref b), (1, .ref Q.n), (2, .ref Q.m), (3, .ref Q.o), (4, .int x4)] → W p l e room_1 s m #[Value.ref b] below meth c H locs (20 + 2 * j + 2) (939 + 20 * j + 20) (lw_Z below #[Value.ref b] s) (F0 m 984 ls []) := by
      intro v' hI' H locs ls hP hD hT hS hl
      refine lv_iinc (v := nI (7 * (j + 1))) (lv' := [(4, .int (nI (7 * (j + 1)))), (0, .ref b), (1, .ref Q.n), (2, .ref Q.m), (3, .ref Q.o)]) hx hb dL_law_984 hl (k := 4) rfl (by rw [ex4, show (Int32.ofInt 7) = nI 7 from by decide, nI_add]; rfl) (by decide) rfl (fun ls hl => ?_)
      refine lv_goto (tgt := 23) hx hb dL_law_987 (by decide) ?_
      refine W.widen (k := 20 + 2 * (j + 1)) (n := 939 + 20 * (j + 1)) (by omega) (by omega) ?_
      exact ih (j + 1) v' (by omega) (by omega) hI' H locs ls hP hD hT hS (lv_sub hl [1, 2, 3, 4, 0] rfl)
    have hrc : 20 + 2 * j + 2 ≤ room_1.cells := Nat.le_trans (show 20 + 2 * j + 2 ≤ 1100 by omega) (Nat.le_of_ble_eq_true rfl)
    have hrs : 939 + 20 * j + 20 ≤ room_1.slots := Nat.le_trans (show 939 + 20 * j + 20 ≤ 12000 by omega) (Nat.le_of_ble_eq_true rfl)
    refine lv_aload_n hx hb dL_law_33 rfl (lv_at hl 0 rfl) ?_
    refine lv_iload hx hb dL_law_34 (lv_at hl 4 rfl) ?_
    refine va_sld hx hb hX hbl hbA hS h_0 dL_law_36 ?_
    refine lv_bipush (v := 31) hx hb dL_law_37 (by decide) ?_
    refine lv_iand hx hb dL_law_39 ?_
    refine lv_topi (fun z ez => ?_)
    by_cases k_0 : z = 0
    · refine lv_tableIn (off := 84) (tgt := 124) hx hb dL_law_40 (by rw [k_0]; decide) (by rw [k_0]; decide) (by rw [k_0]; rfl) (by decide) ?_
      exact lw_c0 C0 E hV hZ Q v x4 _ _ hrc hrs h_0 h_1 h_2 h_3 h_4 h_5 h_6 hI K H locs ls hP hD hT hS hl
    by_cases k_1 : z = 1
    · refine lv_tableIn (off := 109) (tgt := 149) hx hb dL_law_40 (by rw [k_1]; decide) (by rw [k_1]; decide) (by rw [k_1]; rfl) (by decide) ?_
      exact lw_c1 C0 E hV hZ Q v x4 _ _ hrc hrs h_0 h_1 h_2 h_3 h_4 h_5 h_6 hI K H locs ls hP hD hT hS hl
    by_cases k_2 : z = 2
    · refine lv_tableIn (off := 122) (tgt := 162) hx hb dL_law_40 (by rw [k_2]; decide) (by rw [k_2]; decide) (by rw [k_2]; rfl) (by decide) ?_
      exact lw_c2 C0 E hV hZ Q v x4 _ _ hrc hrs h_0 h_1 h_2 h_3 h_4 h_5 h_6 hI K H locs ls hP hD hT hS hl
    by_cases k_3 : z = 3
    · refine lv_tableIn (off := 162) (tgt := 202) hx hb dL_law_40 (by rw [k_3]; decide) (by rw [k_3]; decide) (by rw [k_3]; rfl) (by decide) ?_
      exact lw_c3 C0 E hV hZ Q v x4 _ _ hrc hrs h_0 h_1 h_2 h_3 h_4 h_5 h_6 hI K H locs ls hP hD hT hS hl
    by_cases k_4 : z = 4
    · refine lv_tableIn (off := 199) (tgt := 239) hx hb dL_law_40 (by rw [k_4]; decide) (by rw [k_4]; decide) (by rw [k_4]; rfl) (by decide) ?_
      exact lw_c4 C0 E hV hZ Q v x4 _ _ hrc hrs h_0 h_1 h_2 h_3 h_4 h_5 h_6 hI K H locs ls hP hD hT hS hl
    by_cases k_5 : z = 5
    · refine lv_tableIn (off := 275) (tgt := 315) hx hb dL_law_40 (by rw [k_5]; decide) (by rw [k_5]; decide) (by rw [k_5]; rfl) (by decide) ?_
      exact lw_c5 C0 E hV hZ Q v x4 _ _ hrc hrs h_0 h_1 h_2 h_3 h_4 h_5 h_6 hI K H locs ls hP hD hT hS hl
    by_cases k_6 : z = 6
    · refine lv_tableIn (off := 347) (tgt := 387) hx hb dL_law_40 (by rw [k_6]; decide) (by rw [k_6]; decide) (by rw [k_6]; rfl) (by decide) ?_
      exact lw_c6 C0 E hV hZ Q v x4 _ _ hrc hrs h_0 h_1 h_2 h_3 h_4 h_5 h_6 hI K H locs ls hP hD hT hS hl
    by_cases k_7 : z = 7
    · refine lv_tableIn (off := 451) (tgt := 491) hx hb dL_law_40 (by rw [k_7]; decide) (by rw [k_7]; decide) (by rw [k_7]; rfl) (by decide) ?_
      exact lw_c7 C0 E hV hZ Q v x4 _ _ hrc hrs h_0 h_1 h_2 h_3 h_4 h_5 h_6 hI K H locs ls hP hD hT hS hl
    by_cases k_8 : z = 8
    · refine lv_tableIn (off := 515) (tgt := 555) hx hb dL_law_40 (by rw [k_8]; decide) (by rw [k_8]; decide) (by rw [k_8]; rfl) (by decide) ?_
      exact lw_c8 C0 E hV hZ Q v x4 _ _ hrc hrs h_0 h_1 h_2 h_3 h_4 h_5 h_6 hI K H locs ls hP hD hT hS hl
    by_cases k_9 : z = 9
    · refine lv_tableIn (off := 555) (tgt := 595) hx hb dL_law_40 (by rw [k_9]; decide) (by rw [k_9]; decide) (by rw [k_9]; rfl) (by decide) ?_
      exact lw_c9 C0 E hV hZ Q v x4 _ _ hrc hrs h_0 h_1 h_2 h_3 h_4 h_5 h_6 hI K H locs ls hP hD hT hS hl
    by_cases k_10 : z = 10
    · refine lv_tableIn (off := 595) (tgt := 635) hx hb dL_law_40 (by rw [k_10]; decide) (by rw [k_10]; decide) (by rw [k_10]; rfl) (by decide) ?_
      exact lw_c10 C0 E hV hZ Q v x4 _ _ hrc hrs h_0 h_1 h_2 h_3 h_4 h_5 h_6 hI K H locs ls hP hD hT hS hl
    by_cases k_11 : z = 11
    · refine lv_tableIn (off := 606) (tgt := 646) hx hb dL_law_40 (by rw [k_11]; decide) (by rw [k_11]; decide) (by rw [k_11]; rfl) (by decide) ?_
      exact lw_c11 C0 E hV hZ Q v x4 _ _ hrc hrs h_0 h_1 h_2 h_3 h_4 h_5 h_6 hI K H locs ls hP hD hT hS hl
    by_cases k_12 : z = 12
    · refine lv_tableIn (off := 658) (tgt := 698) hx hb dL_law_40 (by rw [k_12]; decide) (by rw [k_12]; decide) (by rw [k_12]; rfl) (by decide) ?_
      exact lw_c12 C0 E hV hZ Q v x4 _ _ hrc hrs h_0 h_1 h_2 h_3 h_4 h_5 h_6 hI K H locs ls hP hD hT hS hl
    by_cases k_13 : z = 13
    · refine lv_tableIn (off := 734) (tgt := 774) hx hb dL_law_40 (by rw [k_13]; decide) (by rw [k_13]; decide) (by rw [k_13]; rfl) (by decide) ?_
      exact lw_c13 C0 E hV hZ Q v x4 _ _ hrc hrs h_0 h_1 h_2 h_3 h_4 h_5 h_6 hI K H locs ls hP hD hT hS hl
    by_cases k_14 : z = 14
    · refine lv_tableIn (off := 786) (tgt := 826) hx hb dL_law_40 (by rw [k_14]; decide) (by rw [k_14]; decide) (by rw [k_14]; rfl) (by decide) ?_
      exact lw_c14 C0 E hV hZ Q v x4 _ _ hrc hrs h_0 h_1 h_2 h_3 h_4 h_5 h_6 hI K H locs ls hP hD hT hS hl
    by_cases k_15 : z = 15
    · refine lv_tableIn (off := 876) (tgt := 916) hx hb dL_law_40 (by rw [k_15]; decide) (by rw [k_15]; decide) (by rw [k_15]; rfl) (by decide) ?_
      exact lw_c15 C0 E hV hZ Q v x4 _ _ hrc hrs h_0 h_1 h_2 h_3 h_4 h_5 h_6 hI K H locs ls hP hD hT hS hl
    by_cases k_16 : z = 16
    · refine lv_tableIn (off := 916) (tgt := 956) hx hb dL_law_40 (by rw [k_16]; decide) (by rw [k_16]; decide) (by rw [k_16]; rfl) (by decide) ?_
      exact lw_c16 C0 E hV hZ Q v x4 _ _ hrc hrs h_0 h_1 h_2 h_3 h_4 h_5 h_6 hI K H locs ls hP hD hT hS hl
    refine lv_tableOut (tgt := 984) hx hb dL_law_40 (by have q0 := lv_neT k_0 (a := 0) (by decide); have q1 := lv_neT k_1 (a := 1) (by decide); have q2 := lv_neT k_2 (a := 2) (by decide); have q3 := lv_neT k_3 (a := 3) (by decide); have q4 := lv_neT k_4 (a := 4) (by decide); have q5 := lv_neT k_5 (a := 5) (by decide); have q6 := lv_neT k_6 (a := 6) (by decide); have q7 := lv_neT k_7 (a := 7) (by decide); have q8 := lv_neT k_8 (a := 8) (by decide); have q9 := lv_neT k_9 (a := 9) (by decide); have q10 := lv_neT k_10 (a := 10) (by decide); have q11 := lv_neT k_11 (a := 11) (by decide); have q12 := lv_neT k_12 (a := 12) (by decide); have q13 := lv_neT k_13 (a := 13) (by decide); have q14 := lv_neT k_14 (a := 14) (by decide); have q15 := lv_neT k_15 (a := 15) (by decide); have q16 := lv_neT k_16 (a := 16) (by decide); omega) (by decide) ?_
    refine W.widen (k := 20 + 2 * j + 2) (n := 939 + 20 * j + 20) (by omega) (by omega) ?_
    exact K v hI H locs ls hP hD hT hS hl
