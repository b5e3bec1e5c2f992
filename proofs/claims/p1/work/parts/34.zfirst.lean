/-! p1: the first call on a fresh object: all rules are 1 on both sides, no place, no pattern -/
def xu_F (v : XV) : Prop := (∀ j, j < 28 → v.rf j = 1) ∧ (∀ j, j < 28 → v.rr j = 1) ∧ v.we = v.wet.toInt64 ∧ v.pn = 0 ∧ v.pk = (-1) ∧ v.qn = 0
theorem xf_four {kind : Int32} : fR_isFour kind = true ↔ ¬ (kind < 0 ∨ ¬ kind < 4) := by
  unfold fR_isFour
  by_cases c1 : kind < 0
  · rw [if_pos c1]; exact ⟨fun q => absurd q (by decide), fun q => absurd (Or.inl c1) q⟩
  · rw [if_neg c1]
    by_cases c2 : (4 : Int32) ≤ kind
    · rw [if_pos c2]; exact ⟨fun q => absurd q (by decide), fun q => absurd (Or.inr (Int32.not_lt.mpr c2)) q⟩
    · rw [if_neg c2]; exact ⟨fun _ q => q.elim c1 (fun z => z (Int32.not_le.mp c2)), fun _ => rfl⟩
theorem xf_k {kind : Int32} (c : ¬ (kind < 0 ∨ ¬ kind < 4)) : ∃ j : Nat, j < 4 ∧ kind = nI j := by
  obtain ⟨j, hj, rfl⟩ := nI_of (xh_1 c)
  have h2 := xh_2 c
  rw [show (4 : Int32) = nI 4 from rfl, nI_ltI hj (by decide)] at h2
  exact ⟨j, h2, rfl⟩
theorem xf_i {i j : Nat} (hj : j < 4) (hi : i < 7) : ((nI j * 7) + nI i).toNatClampNeg = 7 * j + i ∧ ((7 * nI j) + nI i).toNatClampNeg = 7 * j + i ∧ (7 * nI j).toNatClampNeg = 7 * j := by
  rw [show (7 : Int32) = nI 7 from rfl, pk_mul, pk_mul, nI_add, nI_add, nI_clamp (by omega), nI_clamp (by omega), nI_clamp (by omega)]
  omega
theorem xf_told {rf : Nat → Int32} (hr : ∀ j, j < 28 → rf j = 1) {kind : Int32} (c : ¬ (kind < 0 ∨ ¬ kind < 4)) (i : Nat) (hi : i < 7) : fN_told rf kind (nI i) = 1 := by
  obtain ⟨j, hj, rfl⟩ := xf_k c
  unfold fN_told
  rw [(xf_i hj hi).1]
  exact hr _ (by omega)
theorem xf_ref {rr : Nat → Int32} (hr : ∀ j, j < 28 → rr j = 1) {kind : Int32} (c : ¬ (kind < 0 ∨ ¬ kind < 4)) (i : Nat) (hi : i < 7) : rr ((7 * kind) + nI i).toNatClampNeg = 1 ∧ rr (7 * kind).toNatClampNeg = 1 := by
  obtain ⟨j, hj, rfl⟩ := xf_k c
  rw [(xf_i hj hi).2.1, (xf_i hj hi).2.2]
  exact ⟨hr _ (by omega), hr _ (by omega)⟩
theorem xf_sp {rf : Nat → Int32} (hr : ∀ j, j < 28 → rf j = 1) {kind : Int32} (c : ¬ (kind < 0 ∨ ¬ kind < 4)) (i : Nat) (hi : i < 7) : fN_space rf kind (nI i) = 1 := by
  unfold fN_space
  rw [xf_told hr c i hi, show (0 : Int32) = nI 0 from rfl, xf_told hr c 0 (by decide)]
  decide
theorem xf_sr {rr : Nat → Int32} (hr : ∀ j, j < 28 → rr j = 1) {kind : Int32} (c : ¬ (kind < 0 ∨ ¬ kind < 4)) (i : Nat) (hi : i < 7) : fR_space rr kind (nI i) = 1 := by
  unfold fR_space
  rw [(xf_ref hr c i hi).1, (xf_ref hr c i hi).2]
  decide
theorem xf_idx {x c : Int32} {b : Int64} (e : c.toInt = b.toInt + 1) : fR_isIn x.toInt64 0 b = true ↔ ¬ (x < 0 ∨ ¬ x < c) := by
  rw [xi_isIn, Int64.lt_iff_toInt_lt, Int64.le_iff_toInt_le, Int32.lt_iff_toInt_lt, Int32.lt_iff_toInt_lt, Int32.toInt_toInt64, e, show (0 : Int64).toInt = 0 from by decide, show (0 : Int32).toInt = 0 from by decide]
  omega
theorem xq_rule {rf rr : Nat → Int32} {kind what : Int32} {ou : Nat → Int64} (hr : ∀ j, j < 28 → rf j = 1) (hs : ∀ j, j < 28 → rr j = 1) : gR_rule_0 rr kind what = gL_rule rf kind what ou ∧ (gL_rule rf kind what ou = 0 → gL_rule_f rf kind what ou (0 : Int32).toNatClampNeg = (gR_rule rr kind what).toInt64) := by
  unfold gR_rule_0 gL_rule gL_rule_f gR_rule fN_rule
  by_cases c1 : kind < 0 ∨ ¬ kind < 4
  · simp only [if_pos c1, if_neg (fun q => xf_four.mp q c1)]
    exact ⟨trivial, fun q => absurd q (by decide)⟩
  · simp only [if_neg c1, if_pos (xf_four.mpr c1)]
    by_cases c2 : what < 0 ∨ ¬ what < 7
    · simp only [if_pos c2, if_neg (fun q => (xf_idx (b := 6) (c := 7) (by decide)).mp q c2)]
      exact ⟨trivial, fun q => absurd q (by decide)⟩
    · simp only [if_neg c2, if_pos ((xf_idx (b := 6) (c := 7) (by decide)).mpr c2)]
      refine ⟨trivial, fun _ => pk_uLs.trans ?_⟩
      obtain ⟨i, hi, rfl⟩ := nI_of (xh_1 c2)
      have h2 := xh_2 c2
      rw [show (7 : Int32) = nI 7 from rfl, nI_ltI hi (by decide)] at h2
      rw [xf_told hr c1 i h2, (xf_ref hs c1 i h2).1]
theorem xq_hole {rf rr : Nat → Int32} {kind : Int32} {ou : Nat → Int64} (hr : ∀ j, j < 28 → rf j = 1) (hs : ∀ j, j < 28 → rr j = 1) : gR_hole_0 rr kind = gL_hole rf kind ou ∧ (gL_hole rf kind ou = 0 → gL_hole_f rf kind ou (0 : Int32).toNatClampNeg = (gR_hole rr kind).toInt64) := by
  unfold gR_hole_0 gL_hole gL_hole_f gR_hole fN_hole
  by_cases c1 : kind < 0 ∨ ¬ kind < 4
  · simp only [if_pos c1, if_neg (fun q => xf_four.mp q c1)]
    exact ⟨trivial, fun q => absurd q (by decide)⟩
  · simp only [if_neg c1, if_pos (xf_four.mpr c1), ite_self]
    refine ⟨trivial, fun _ => pk_uLs.trans ?_⟩
    have e1 : fN_told rf kind 0 = 1 := xf_told hr c1 0 (by decide)
    rw [e1, (xf_ref hs c1 0 (by decide)).2]
    obtain ⟨j, hj, rfl⟩ := xf_k c1
    rcases (show j = 0 ∨ j = 1 ∨ j = 2 ∨ j = 3 by omega) with rfl | rfl | rfl | rfl <;> decide
theorem xf_lt1 {t : Int32} : t.toInt64 < 1 ↔ t < 1 := by
  rw [Int64.lt_iff_toInt_lt, Int32.lt_iff_toInt_lt, Int32.toInt_toInt64, show (1 : Int64).toInt = 1 from by decide, show (1 : Int32).toInt = 1 from by decide]
theorem xq_thick {rf rr : Nat → Int32} {kind tk : Int32} {ou : Nat → Int64} (hr : ∀ j, j < 28 → rf j = 1) (hs : ∀ j, j < 28 → rr j = 1) : gR_thick_0 rr kind tk = gL_thick rf kind tk ou ∧ (gL_thick rf kind tk ou = 0 → gL_thick_f rf kind tk ou (0 : Int32).toNatClampNeg = if gR_thick rr kind tk = true then 1 else 0) := by
  unfold gR_thick_0 gL_thick gL_thick_f gR_thick fN_thick
  by_cases c1 : kind < 0 ∨ ¬ kind < 4
  · simp only [if_pos c1, if_neg (fun q => xf_four.mp q c1)]
    exact ⟨trivial, fun q => absurd q (by decide)⟩
  · simp only [if_neg c1, if_pos (xf_four.mpr c1), ite_self]
    have e1 : fN_space rf kind 6 = 1 := xf_sp hr c1 6 (by decide)
    have e2 : fR_space rr kind 6 = 1 := xf_sr hs c1 6 (by decide)
    rw [e1, e2]
    by_cases c2 : (0 : Int32) ≤ tk
    · have c3 : ¬ ¬ (0 : Int32) ≤ tk := fun q => q c2
      simp only [if_pos c2, if_neg c3]
      refine ⟨trivial, fun _ => ?_⟩
      by_cases c4 : tk < 1
      · rw [if_pos c4, if_pos (xf_lt1.mpr c4), if_neg (by decide), if_neg (by decide)]; exact pk_uLs
      · rw [if_neg c4, if_neg (fun q => c4 (xf_lt1.mp q)), if_pos rfl, if_pos rfl]; exact pk_uLs
    · simp only [if_neg c2, if_pos c2]
      exact ⟨trivial, fun q => absurd q (by decide)⟩
theorem xq_at {pf xf yf : Nat → Int32} {pk pm co pn k9 axis : Int32} {ou : Nat → Int64} (h1 : pn = 0) (h2 : pk = (-1)) : gR_at_0 pf pk pm co k9 axis = gL_at xf yf pn k9 axis ou ∧ (gL_at xf yf pn k9 axis ou = 0 → gL_at_f xf yf pn k9 axis ou (0 : Int32).toNatClampNeg = (gR_at pf pk pm co k9 axis).toInt64) := by
  unfold gR_at_0 gL_at
  rw [if_pos h1, if_pos h2]
  exact ⟨rfl, fun q => absurd q (by decide)⟩
theorem xq_keeps {rf rr xf yf gx gy : Nat → Int32} {qn pl kind w h : Int32} {ou : Nat → Int64} (h1 : qn = 0) (h2 : pl = qn) : gR_keeps_0 rr xf yf pl kind w h = gL_keeps rf gx gy qn kind w h ou ∧ (gL_keeps rf gx gy qn kind w h ou = 0 → gL_keeps_f rf gx gy qn kind w h ou (0 : Int32).toNatClampNeg = (gR_keeps rr xf yf pl kind w h).toInt64) := by
  subst h1
  subst h2
  have z : (0 : Int32) ≤ 0 := by decide
  have k0 : kR_keeps_80a_0 rr xf yf 0 kind w h 33 0 = 0 := by
    unfold kR_keeps_80a_0
    rw [if_pos z]
    unfold kR_keeps_165a_0
    rw [if_pos z]
  have k1 : kR_keeps_80a_1 rr xf yf 0 kind w h 33 0 = 0 := by
    unfold kR_keeps_80a_1
    rw [if_pos z]
    unfold kR_keeps_165a_1
    rw [if_pos z]
  have k2 : fN_keeps rf gx gy 0 kind w h = 0 := by
    have a1 : fN_firstNearSide rf gx gy 0 kind w h = (-1) := by
      unfold fN_firstNearSide kN_firstNearSide_19a
      rw [if_pos z]
    have a2 : fN_firstNearPair gx gy 0 ((fN_space rf kind (4)).toInt64) = (-1) := by
      unfold fN_firstNearPair kN_firstNearPair_2a
      rw [if_pos z]
    unfold fN_keeps
    rw [if_pos a1, if_pos a2]
  unfold gR_keeps_0 gL_keeps gL_keeps_f gR_keeps
  rw [k0, k1, k2]
  by_cases c1 : kind < 0 ∨ ¬ kind < 4
  · simp only [if_pos c1, if_neg (fun q => xf_four.mp q c1)]
    exact ⟨trivial, fun q => absurd q (by decide)⟩
  simp only [if_neg c1, if_pos (xf_four.mpr c1)]
  by_cases c2 : w.toInt64 < 1 ∨ ¬ w.toInt64 ≤ 100000
  · simp only [if_pos c2, if_neg (fun q => xi_isIn.mp q c2)]
    exact ⟨trivial, fun q => absurd q (by decide)⟩
  simp only [if_neg c2, if_pos (xi_isIn.mpr c2)]
  by_cases c3 : h.toInt64 < 1 ∨ ¬ h.toInt64 ≤ 100000
  · simp only [if_pos c3, if_neg (fun q => xi_isIn.mp q c3)]
    exact ⟨trivial, fun q => absurd q (by decide)⟩
  simp only [if_neg c3, if_pos (xi_isIn.mpr c3)]
  exact ⟨trivial, fun _ => pk_uLs⟩
theorem xf_fit {w : Int32} (c : ¬ (w.toInt64 < 1 ∨ ¬ w.toInt64 ≤ 100000)) : (fN_fitting w 1 1).toInt64 = fR_fits w.toInt64 1 1 := by
  have k := xq_i2 c
  rw [show (1 : Int64).toInt = 1 from by decide, show (100000 : Int64).toInt = 100000 from by decide] at k
  have e1 : (w - (2 * 1) : Int32).toInt = w.toInt - 2 := by
    rw [Int32.toInt_sub, show (2 * 1 : Int32).toInt = 2 from by decide, Int.bmod_eq_of_le (by omega) (by omega)]
  have e2 : (w.toInt64 - (2 * 1) : Int64).toInt = w.toInt - 2 := by
    rw [Int64.toInt_sub, Int32.toInt_toInt64, show (2 * 1 : Int64).toInt = 2 from by decide, Int.bmod_eq_of_le (by omega) (by omega)]
  unfold fN_fitting fR_fits
  by_cases c1 : (w - (2 * 1) : Int32) < 0
  · have c2 : ¬ (0 : Int64) ≤ w.toInt64 - (2 * 1) := by
      rw [Int64.le_iff_toInt_le, e2, show (0 : Int64).toInt = 0 from by decide]
      rw [Int32.lt_iff_toInt_lt, e1, show (0 : Int32).toInt = 0 from by decide] at c1
      omega
    rw [if_pos c1, if_neg c2]
    decide
  · have c2 : (0 : Int64) ≤ w.toInt64 - (2 * 1) := by
      rw [Int64.le_iff_toInt_le, e2, show (0 : Int64).toInt = 0 from by decide]
      rw [Int32.lt_iff_toInt_lt, e1, show (0 : Int32).toInt = 0 from by decide] at c1
      omega
    rw [if_neg c1, if_pos (by decide : (1 : Int32) ≤ 1), if_pos c2]
    refine Int64.toInt_inj.mp ?_
    have d1 : ((w - (2 * 1)) / 1 : Int32).toInt = w.toInt - 2 := by
      rw [Int32.toInt_div, e1, show (1 : Int32).toInt = 1 from by decide, Int.tdiv_one, Int.bmod_eq_of_le (by omega) (by omega)]
    have d2 : ((w.toInt64 - (2 * 1)) / 1 : Int64).toInt = w.toInt - 2 := by
      rw [Int64.toInt_div, e2, show (1 : Int64).toInt = 1 from by decide, Int.tdiv_one, Int.bmod_eq_of_le (by omega) (by omega)]
    rw [Int32.toInt_toInt64, Int32.toInt_add, d1, Int64.toInt_add, d2, show (1 : Int32).toInt = 1 from by decide, show (1 : Int64).toInt = 1 from by decide, Int.bmod_eq_of_le (by omega) (by omega), Int.bmod_eq_of_le (by omega) (by omega)]
theorem xq_pattern {rf rr xf yf pf : Nat → Int32} {pn pk pm co kind w h n : Int32} {ou : Nat → Int64} (hr : ∀ j, j < 28 → rf j = 1) (hs : ∀ j, j < 28 → rr j = 1) : gR_pattern_0 rr pf pk pm co kind w h n = gL_pattern rf xf yf pn kind w h n ou ∧ (gL_pattern rf xf yf pn kind w h n ou = 0 → gL_pattern_f rf xf yf pn kind w h n ou (0 : Int32).toNatClampNeg = if gR_pattern rr pf pk pm co kind w h n = true then 1 else 0) := by
  unfold gR_pattern_0 gL_pattern gL_pattern_f gR_pattern gN_pattern
  by_cases c1 : kind < 0 ∨ ¬ kind < 4
  · simp only [if_pos c1, if_neg (fun q => xf_four.mp q c1), ite_self]
    exact ⟨trivial, fun q => absurd q (by decide)⟩
  simp only [if_neg c1, if_pos (xf_four.mpr c1), ite_self]
  by_cases c2 : w.toInt64 < 1 ∨ ¬ w.toInt64 ≤ 100000
  · simp only [if_pos c2, if_neg (fun q => xi_isIn.mp q c2)]
    exact ⟨trivial, fun q => absurd q (by decide)⟩
  simp only [if_neg c2, if_pos (xi_isIn.mpr c2)]
  by_cases c3 : h.toInt64 < 1 ∨ ¬ h.toInt64 ≤ 100000
  · simp only [if_pos c3, if_neg (fun q => xi_isIn.mp q c3)]
    exact ⟨trivial, fun q => absurd q (by decide)⟩
  simp only [if_neg c3, if_pos (xi_isIn.mpr c3)]
  by_cases c4 : n.toInt64 < 1 ∨ ¬ n.toInt64 ≤ 100
  · simp only [if_pos c4, if_neg (fun q => xi_isIn.mp q c4)]
    exact ⟨trivial, fun q => absurd q (by decide)⟩
  simp only [if_neg c4, if_pos (xi_isIn.mpr c4)]
  refine ⟨trivial, fun _ => ?_⟩
  have a2 : fN_space rf kind 2 = 1 := xf_sp hr c1 2 (by decide)
  have a3 : fN_space rf kind 3 = 1 := xf_sp hr c1 3 (by decide)
  have a4 : fN_space rf kind 4 = 1 := xf_sp hr c1 4 (by decide)
  have a5 : fN_space rf kind 5 = 1 := xf_sp hr c1 5 (by decide)
  have b2 : fR_space rr kind 2 = 1 := xf_sr hs c1 2 (by decide)
  have b3 : fR_space rr kind 3 = 1 := xf_sr hs c1 3 (by decide)
  have b4 : fR_space rr kind 4 = 1 := xf_sr hs c1 4 (by decide)
  have b5 : fR_space rr kind 5 = 1 := xf_sr hs c1 5 (by decide)
  rw [a2, a3, a4, a5, b2, b3, b4, b5, xf_fit c2, xf_fit c3]
  by_cases c5 : n.toInt64 ≤ fR_fits w.toInt64 1 1 * fR_fits h.toInt64 1 1
  · rw [if_pos c5, if_pos rfl, if_pos rfl]; exact pk_uLs
  · rw [if_neg c5, if_neg (by decide), if_neg (by decide)]; exact pk_uLs
theorem xf_form {rf rr : Nat → Int32} {kind a b : Int32} (hr : ∀ j, j < 28 → rf j = 1) (hs : ∀ j, j < 28 → rr j = 1) (c : ¬ (kind < 0 ∨ ¬ kind < 4)) (ca : ¬ (a.toInt64 < 1 ∨ ¬ a.toInt64 ≤ 1000)) (cb : ¬ (b.toInt64 < 1 ∨ ¬ b.toInt64 ≤ 1000)) (which : Int32) : fN_formula rf which kind a b = fR_formula rr kind which a.toInt64 b.toInt64 := by
  have k1 := xq_i2 ca
  have k2 := xq_i2 cb
  rw [show (1 : Int64).toInt = 1 from by decide, show (1000 : Int64).toInt = 1000 from by decide] at k1 k2
  have e : (a + b).toInt64 = a.toInt64 + b.toInt64 := by
    refine Int64.toInt_inj.mp ?_
    rw [Int32.toInt_toInt64, Int32.toInt_add, Int64.toInt_add, Int32.toInt_toInt64, Int32.toInt_toInt64, Int.bmod_eq_of_le (by omega) (by omega), Int.bmod_eq_of_le (by omega) (by omega)]
  have t0 : fN_told rf kind 0 = 1 := xf_told hr c 0 (by decide)
  have t1 : fN_told rf kind 1 = 1 := xf_told hr c 1 (by decide)
  have r1 : rr ((7 * kind) + 1).toNatClampNeg = 1 := (xf_ref hs c 1 (by decide)).1
  have r0 := (xf_ref hs c 1 (by decide)).2
  unfold fN_formula fR_formula
  rw [t0, t1, r0, r1, e]
theorem xf_least {rf rr : Nat → Int32} {we : Int64} {wet kind a b angle part : Int32} (hf : ∀ which, fN_formula rf which kind a b = fR_formula rr kind which a.toInt64 b.toInt64) (hw : we = wet.toInt64) (ha : (200 - angle).toInt64 = 200 - angle.toInt64) : ∀ (n : Nat) (be : Int32) (j : Nat), j ≤ 4 → 4 - j < n → kR_holds_95a_0 rr we kind a b angle part n be (nI j) = (if part = 1 then ((kN_leastFormula_6a rf kind a b n be (nI j)).toInt64) else (((((fN_formula rf (kN_leastFormula_6a rf kind a b n be (nI j)) kind a b) * ((200 - angle).toInt64)) / 200) * wet.toInt64) / 100)) ∧ kR_holds_95a_1 rr we kind a b angle part n be (nI j) = 0 := by
  intro n
  induction n with
  | zero => intro be j _ h; omega
  | succ n ih =>
    intro be j h1 h2
    unfold kR_holds_95a_0 kR_holds_95a_1 kN_leastFormula_6a
    by_cases c : (4 : Int32) ≤ nI j
    · simp only [if_pos c, ite_self]
      rw [hf, hw, ha]
      exact ⟨rfl, trivial⟩
    · have c' := c
      rw [show (4 : Int32) = nI 4 from rfl, nI_leI (by decide) (by omega)] at c'
      simp only [if_neg c]
      rw [hf, hf, nI_1]
      by_cases d : fR_formula rr kind be a.toInt64 b.toInt64 ≤ fR_formula rr kind (nI j) a.toInt64 b.toInt64
      · simp only [if_pos d]
        exact ih be (j + 1) (by omega) (by omega)
      · simp only [if_neg d]
        exact ih (nI j) (j + 1) (by omega) (by omega)
theorem xf_part {x : Int32} : (x < 0 ∨ ¬ x < 2) ↔ ¬ (¬ x < 0 ∧ x ≤ 1) := by
  rw [Int32.lt_iff_toInt_lt, Int32.lt_iff_toInt_lt, Int32.le_iff_toInt_le, show (0 : Int32).toInt = 0 from by decide, show (2 : Int32).toInt = 2 from by decide, show (1 : Int32).toInt = 1 from by decide]
  omega
theorem xq_holds {rf rr : Nat → Int32} {we : Int64} {wet kind a b angle part : Int32} {ou : Nat → Int64} (hr : ∀ j, j < 28 → rf j = 1) (hs : ∀ j, j < 28 → rr j = 1) (hw : we = wet.toInt64) : gR_holds_0 rr we kind a b angle part = gL_holds rf wet kind a b angle part ou ∧ (gL_holds rf wet kind a b angle part ou = 0 → gL_holds_f rf wet kind a b angle part ou (0 : Int32).toNatClampNeg = gR_holds rr we kind a b angle part) := by
  unfold gR_holds_0 gL_holds gL_holds_f gR_holds fN_holds fN_leastFormula
  by_cases c1 : kind < 0 ∨ ¬ kind < 4
  · simp only [if_pos c1, if_neg (fun q => xf_four.mp q c1), ite_self]
    exact ⟨trivial, fun q => absurd q (by decide)⟩
  simp only [if_neg c1, if_pos (xf_four.mpr c1)]
  by_cases c2 : part < 0 ∨ ¬ part < 2
  · simp only [if_pos c2]
    refine ⟨?_, fun q => absurd q (by decide)⟩
    have d := xf_part.mp c2
    by_cases d1 : part < 0
    · simp only [if_pos d1, ite_self]
    · simp only [if_neg d1, if_neg (fun q => d ⟨d1, q⟩), ite_self]
  have d1 := xh_1 c2
  have d2 : part ≤ 1 := Decidable.byContradiction (fun q => c2 (xf_part.mpr (fun z => q z.2)))
  simp only [if_neg c2, if_neg d1, if_pos d2]
  by_cases c3 : a.toInt64 < 1 ∨ ¬ a.toInt64 ≤ 1000
  · simp only [if_pos c3, if_neg (fun q => xi_isIn.mp q c3)]
    exact ⟨trivial, fun q => absurd q (by decide)⟩
  simp only [if_neg c3, if_pos (xi_isIn.mpr c3)]
  by_cases c4 : b.toInt64 < 1 ∨ ¬ b.toInt64 ≤ 1000
  · simp only [if_pos c4, if_neg (fun q => xi_isIn.mp q c4)]
    exact ⟨trivial, fun q => absurd q (by decide)⟩
  simp only [if_neg c4, if_pos (xi_isIn.mpr c4)]
  by_cases c5 : angle.toInt64 < 0 ∨ ¬ angle.toInt64 ≤ 90
  · simp only [if_pos c5, if_neg (fun q => xi_isIn.mp q c5)]
    exact ⟨trivial, fun q => absurd q (by decide)⟩
  simp only [if_neg c5, if_pos (xi_isIn.mpr c5)]
  have k := xq_i2 c5
  rw [show (0 : Int64).toInt = 0 from by decide, show (90 : Int64).toInt = 90 from by decide] at k
  have ha : (200 - angle).toInt64 = 200 - angle.toInt64 := by
    refine Int64.toInt_inj.mp ?_
    rw [Int32.toInt_toInt64, Int32.toInt_sub, Int64.toInt_sub, Int32.toInt_toInt64, show (200 : Int32).toInt = 200 from by decide, show (200 : Int64).toInt = 200 from by decide, Int.bmod_eq_of_le (by omega) (by omega), Int.bmod_eq_of_le (by omega) (by omega)]
  have z := xf_least (we := we) (wet := wet) (part := part) (xf_form hr hs c1 c3 c4) hw ha 4 0 1 (by decide) (by decide)
  have z1 : kR_holds_95a_0 rr we kind a b angle part 4 0 1 = _ := z.1
  have z2 : kR_holds_95a_1 rr we kind a b angle part 4 0 1 = 0 := z.2
  rw [z1, z2]
  exact ⟨rfl, fun _ => pk_uLs⟩
