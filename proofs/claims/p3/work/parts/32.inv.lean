/-! what the calls leave of the invariant -/
theorem xi_i0 {x : Int32} (h : 0 ≤ x) : 0 ≤ x.toInt := by
  rw [Int32.le_iff_toInt_le] at h
  exact h
theorem xi_200 {x : Int32} (h0 : 0 ≤ x) (h1 : x ≤ 200) : ∃ a : Nat, a ≤ 200 ∧ x = nI a := by
  rw [Int32.le_iff_toInt_le] at h0 h1
  obtain ⟨a, ha, e⟩ := nI_of (x := x) (by rw [Int32.lt_iff_toInt_lt]; exact Int.not_lt.mpr h0)
  rw [e, nI_toInt ha, show (200 : Int32).toInt = 200 from by decide] at h1
  exact ⟨a, by omega, e⟩
theorem xi_u01 {uf : Nat → Int32} {len nx u : Int32} (h0 : 0 ≤ len) (h1 : len ≤ 200) : 0 ≤ gN_unit_1 uf len nx u ∧ gN_unit_1 uf len nx u ≤ 200 := by
  unfold gN_unit_1 gT_append_1
  by_cases c : 200 ≤ len
  · rw [if_pos c]; exact ⟨h0, h1⟩
  · rw [if_neg c]
    obtain ⟨a, ha, rfl⟩ := xi_200 h0 h1
    rw [show (200 : Int32) = nI 200 from rfl, nI_leI (by decide) (by omega)] at c
    repeat' split
    · exact ⟨h0, h1⟩
    · rw [nI_1]
      exact ⟨nI_pos' (by omega), nI_le (b := 200) (by omega) (by decide)⟩
    · exact ⟨h0, h1⟩
theorem xi_u0 {uf : Nat → Int32} {len nx u : Int32} (h0 : 0 ≤ len) (h1 : len ≤ 200) : 0 ≤ gN_unit_1 uf len nx u := (xi_u01 h0 h1).1
theorem xi_u1 {uf : Nat → Int32} {len nx u : Int32} (h0 : 0 ≤ len) (h1 : len ≤ 200) : gN_unit_1 uf len nx u ≤ 200 := (xi_u01 h0 h1).2
theorem xi_le {a b : Int32} : a ≤ b ↔ ¬ b < a := (Int32.not_lt).symm
theorem xi_u2 {uf tf : Nat → Int32} {len nx th zs u : Int32} (e : zs = len) : gR_unit_2 tf th zs u = gN_unit_1 uf len nx u := by
  subst e
  unfold gR_unit_2 gN_unit_1 gT_append_1
  by_cases c1 : u < 32 <;> by_cases c2 : 126 < u <;> by_cases c3 : 200 ≤ zs <;> simp [c1, c2, c3, xi_le]
theorem xi_u {uf tf : Nat → Int32} {len nx th zs u : Int32} (e : zs = len) : gN_unit uf len nx u = gR_unit tf th zs u := by
  subst e
  unfold gR_unit gN_unit gT_append
  by_cases c1 : u < 32 <;> by_cases c2 : 126 < u <;> by_cases c3 : 200 ≤ zs <;> simp [c1, c2, c3, xi_le]
/-! set -/
theorem xi_isIn {v lo hi : Int64} : fR_isIn v lo hi = true ↔ ¬ (v < lo ∨ ¬ v ≤ hi) := by
  unfold fR_isIn
  by_cases c1 : v < lo
  · simp [c1]
  · by_cases c2 : hi < v
    · simp [c1, c2]
    · simp [c1, c2]
theorem xi_w2 {w : Int32} (c : ¬ (w < 0 ∨ ¬ w < 2)) : w = 0 ∨ w = 1 := by
  obtain ⟨j, hj, rfl⟩ := nI_of (xh_1 c)
  have h2 := xh_2 c
  rw [show (2 : Int32) = nI 2 from rfl, nI_ltI hj (by decide)] at h2
  rcases (show j = 0 ∨ j = 1 by omega) with rfl | rfl
  · exact Or.inl rfl
  · exact Or.inr rfl
theorem xi_w3 {w : Int32} (c : w < 0 ∨ ¬ w < 2) : w < 0 ∨ (¬ w < 0 ∧ ¬ w ≤ 1) := by
  by_cases h : w < 0
  · exact Or.inl h
  · refine Or.inr ⟨h, ?_⟩
    rcases c with c | c
    · exact absurd c h
    · rw [Int32.lt_iff_toInt_lt, show (2 : Int32).toInt = 2 from by decide] at c
      rw [Int32.le_iff_toInt_le, show (1 : Int32).toInt = 1 from by decide]
      omega
theorem xi_s1 {we le : Int64} {wet less what pct : Int32} (e : le = less.toInt64) : gR_set_9 we le what pct = (gL_set_3 wet less what pct).toInt64 := by
  unfold gR_set_9 gL_set_3 gN_set_3
  by_cases c : what < 0 ∨ ¬ what < 2
  · rw [if_pos c]
    rcases xi_w3 c with h | ⟨h1, h2⟩
    · rw [if_pos h]; exact e
    · rw [if_neg h1, if_neg h2]; exact e
  · rw [if_neg c, if_neg (xh_1 c)]
    rcases xi_w2 c with rfl | rfl
    · rw [if_pos (by decide), show (1 : Int64) - (0 : Int32).toInt64 = 1 from by decide]
      by_cases c2 : (pct.toInt64 < 1 ∨ ¬ pct.toInt64 ≤ 100)
      · rw [if_neg (fun q => absurd c2 (xi_isIn.mp q)), if_pos ⟨rfl, c2⟩]; exact e
      · rw [if_pos (xi_isIn.mpr c2), if_pos rfl, if_neg (fun q => c2 q.2), if_neg (fun q => q.1 rfl), if_pos rfl]; exact e
    · rw [if_pos (by decide), show (1 : Int64) - (1 : Int32).toInt64 = 0 from by decide]
      by_cases c2 : (pct.toInt64 < 0 ∨ ¬ pct.toInt64 ≤ 100)
      · rw [if_neg (fun q => absurd c2 (xi_isIn.mp q)), if_neg (fun q => absurd q.1 (by decide)), if_pos ⟨by decide, c2⟩]; exact e
      · rw [if_pos (xi_isIn.mpr c2), if_neg (by decide), if_neg (fun q => absurd q.1 (by decide)), if_neg (fun q => c2 q.2), if_neg (by decide)]
theorem xi_s23 {wet less what pct : Int32} (h0 : 0 ≤ less) (h1 : less ≤ 100) : 0 ≤ gL_set_3 wet less what pct ∧ gL_set_3 wet less what pct ≤ 100 := by
  unfold gL_set_3 gN_set_3
  by_cases c : what < 0 ∨ ¬ what < 2
  · rw [if_pos c]; exact ⟨h0, h1⟩
  · rw [if_neg c]
    by_cases c2 : what = 0 ∧ (pct.toInt64 < 1 ∨ ¬ pct.toInt64 ≤ 100)
    · rw [if_pos c2]; exact ⟨h0, h1⟩
    · rw [if_neg c2]
      by_cases c3 : ¬ what = 0 ∧ (pct.toInt64 < 0 ∨ ¬ pct.toInt64 ≤ 100)
      · rw [if_pos c3]; exact ⟨h0, h1⟩
      · rw [if_neg c3]
        by_cases c4 : what = 0
        · rw [if_pos c4]; exact ⟨h0, h1⟩
        · rw [if_neg c4]
          have h2 : ¬ (pct.toInt64 < 0 ∨ ¬ pct.toInt64 ≤ 100) := fun q => c3 ⟨c4, q⟩
          have g1 := xh_1 h2
          have g2 := xh_2 h2
          rw [Int64.lt_iff_toInt_lt, Int32.toInt_toInt64] at g1
          rw [Int64.le_iff_toInt_le, Int32.toInt_toInt64] at g2
          rw [Int32.le_iff_toInt_le, Int32.le_iff_toInt_le]
          exact ⟨Int.not_lt.mp g1, g2⟩
/-! place -/
theorem xi_pl {xf yf gx gy : Nat → Int32} {qn pl x y : Int32} {ou : Nat → Int64} (h0 : 0 ≤ qn) (h1 : qn ≤ 32) (e : pl = qn) : gR_place_14 xf yf pl x y = gL_place_9 gx gy qn x y ou ∧ 0 ≤ gL_place_9 gx gy qn x y ou ∧ gL_place_9 gx gy qn x y ou ≤ 32 := by
  subst e
  unfold gR_place_14 gL_place_9 gN_place_9
  by_cases c1 : x.toInt64 < 0 ∨ ¬ x.toInt64 ≤ 100000
  · rw [if_pos c1, if_neg (fun q => absurd c1 (xi_isIn.mp q))]; exact ⟨rfl, h0, h1⟩
  · rw [if_neg c1, if_pos (xi_isIn.mpr c1)]
    by_cases c2 : y.toInt64 < 0 ∨ ¬ y.toInt64 ≤ 100000
    · rw [if_pos c2, if_neg (fun q => absurd c2 (xi_isIn.mp q))]; exact ⟨rfl, h0, h1⟩
    · rw [if_neg c2, if_pos (xi_isIn.mpr c2)]
      rw [Int32.le_iff_toInt_le] at h0 h1
      obtain ⟨a, ha, rfl⟩ := nI_of (x := pl) (by rw [Int32.lt_iff_toInt_lt]; exact Int.not_lt.mpr h0)
      rw [nI_toInt ha, show (32 : Int32).toInt = 32 from by decide] at h1
      have q1 : nI a < 32 ↔ a < 32 := nI_ltI (b := 32) ha (by decide)
      have q2 : nI a = 32 ↔ a = 32 := nI_eq (b := 32) ha (by decide)
      by_cases c3 : a < 32
      · rw [if_neg (fun q => absurd (q2.mp q) (by omega)), if_neg (fun q => q (q1.mpr c3)), nI_1]
        exact ⟨rfl, nI_pos' (by omega), nI_le (b := 32) (by omega) (by decide)⟩
      · rw [if_pos (q2.mpr (by omega)), if_pos (fun q => c3 (q1.mp q))]
        exact ⟨rfl, nI_pos' (by omega), nI_le (b := 32) (by omega) (by decide)⟩
/-! pattern -/
theorem xi_p0 {rf xf yf : Nat → Int32} {pn kind cs n : Int32} (hn : n ≤ 100) : ∀ (k : Nat) (c9 r9 k9 : Int32) (xq yq : Nat → Int32), kN_layOut_9a_0 rf xf yf pn kind cs n k c9 r9 k9 xq yq ≤ 100 := by
  intro k
  induction k with
  | zero => intro c9 r9 k9 xq yq; exact (by decide : (default : Int32) ≤ 100)
  | succ k ih =>
    intro c9 r9 k9 xq yq
    unfold kN_layOut_9a_0
    repeat' split
    all_goals first | exact hn | exact ih _ _ _ _ _
theorem xi_p1 {rf xf yf : Nat → Int32} {pn kind w h n : Int32} {ou : Nat → Int64} (hp : pn ≤ 100) : gL_pattern_6 rf xf yf pn kind w h n ou ≤ 100 := by
  unfold gL_pattern_6
  by_cases c1 : kind < 0 ∨ ¬ kind < 4
  · rw [if_pos c1]; exact hp
  rw [if_neg c1]
  by_cases c2 : w.toInt64 < 1 ∨ ¬ w.toInt64 ≤ 100000
  · rw [if_pos c2]; exact hp
  rw [if_neg c2]
  by_cases c3 : h.toInt64 < 1 ∨ ¬ h.toInt64 ≤ 100000
  · rw [if_pos c3]; exact hp
  rw [if_neg c3]
  by_cases c4 : n.toInt64 < 1 ∨ ¬ n.toInt64 ≤ 100
  · rw [if_pos c4]; exact hp
  rw [if_neg c4]
  have key : gN_pattern_6 rf xf yf pn kind w h n ≤ 100 := by
    unfold gN_pattern_6 gN_layOut_6
    split
    · exact xi_p0 (xh_n c4) _ _ _ _ _ _
    · exact hp
  rw [ite_self]
  exact key
theorem xi_sp {rr : Nat → Int32} (hr : ∀ j, j < 28 → 1 ≤ (rr j).toInt ∧ (rr j).toInt ≤ 9999) {kind : Int32} (i : Nat) (hi : i < 7) (h : fR_isFour kind = true) : 1 ≤ (fR_space rr kind (nI i)).toInt ∧ (fR_space rr kind (nI i)).toInt ≤ 99980001 := by
  obtain ⟨j, hj, rfl⟩ := xp_four h
  have e1 : (7 * nI j).toNatClampNeg = 7 * j := by
    rw [show (7 : Int32) = nI 7 from rfl, pk_mul, nI_clamp (by omega)]
  have e2 : (7 * nI j + nI i).toNatClampNeg = 7 * j + i := by
    rw [show (7 : Int32) = nI 7 from rfl, pk_mul, nI_add, nI_clamp (by omega)]
  have h1 := hr (7 * j) (by omega)
  have h2 := hr (7 * j + i) (by omega)
  unfold fR_space
  rw [e1, e2, Int64.toInt_mul, Int32.toInt_toInt64, Int32.toInt_toInt64]
  have hp : 1 ≤ (rr (7 * j + i)).toInt * (rr (7 * j)).toInt := by
    have := Int.mul_le_mul h2.1 h1.1 (by decide) (by omega)
    simpa using this
  have hq : (rr (7 * j + i)).toInt * (rr (7 * j)).toInt ≤ 99980001 := by
    have := Int.mul_le_mul h2.2 h1.2 (by omega) (by decide)
    simpa using this
  rw [Int.bmod_eq_of_le (by omega) (by omega)]
  exact ⟨hp, hq⟩
theorem xi_fit {al ed st : Int64} (ha : 1 ≤ al.toInt ∧ al.toInt ≤ 100000) (he : 1 ≤ ed.toInt ∧ ed.toInt ≤ 99980001) (hs : 1 ≤ st.toInt ∧ st.toInt ≤ 99980001) : 0 ≤ (fR_fits al ed st).toInt ∧ (fR_fits al ed st).toInt ≤ 100001 := by
  have e1 : (al - 2 * ed).toInt = al.toInt - 2 * ed.toInt := by
    have e0 : (2 * ed).toInt = 2 * ed.toInt := by
      rw [Int64.toInt_mul, show (2 : Int64).toInt = 2 from by decide, Int.bmod_eq_of_le (by omega) (by omega)]
    rw [Int64.toInt_sub, e0, Int.bmod_eq_of_le (by omega) (by omega)]
  unfold fR_fits
  by_cases c : (0 : Int64) ≤ al - 2 * ed
  · rw [if_pos c]
    rw [Int64.le_iff_toInt_le, e1, show (0 : Int64).toInt = 0 from by decide] at c
    have e2 : ((al - 2 * ed) / st).toInt = (al.toInt - 2 * ed.toInt) / st.toInt := by
      rw [Int64.toInt_div, e1]
      have q0 : 0 ≤ (al.toInt - 2 * ed.toInt) / st.toInt := Int.ediv_nonneg c (by omega)
      have q1 : (al.toInt - 2 * ed.toInt) / st.toInt ≤ al.toInt - 2 * ed.toInt := Int.ediv_le_self _ c
      rw [Int.tdiv_eq_ediv_of_nonneg c, Int.bmod_eq_of_le (by omega) (by omega)]
    have q0 : 0 ≤ (al.toInt - 2 * ed.toInt) / st.toInt := Int.ediv_nonneg c (by omega)
    have q1 : (al.toInt - 2 * ed.toInt) / st.toInt ≤ al.toInt - 2 * ed.toInt := Int.ediv_le_self _ c
    rw [Int64.toInt_add, e2, show (1 : Int64).toInt = 1 from by decide, Int.bmod_eq_of_le (by omega) (by omega)]
    omega
  · rw [if_neg c, show (0 : Int64).toInt = 0 from by decide]
    omega
theorem xi_t32 {x : Int64} (h : 0 ≤ x.toInt ∧ x.toInt ≤ 100001) (e : x.toInt32 = 0) : x = 0 := by
  have e1 := congrArg Int32.toInt e
  rw [Int64.toInt_toInt32, show (0 : Int32).toInt = 0 from by decide, Int.bmod_eq_of_le (by omega) (by omega)] at e1
  exact Int64.toInt_inj.mp (e1.trans (by decide))
theorem xi_p2 {rr pf : Nat → Int32} {pk pm co kind w h n : Int32} (hr : ∀ j, j < 28 → 1 ≤ (rr j).toInt ∧ (rr j).toInt ≤ 9999) (hc : ¬ pk = (-1) → ¬ co = 0) : ¬ gR_pattern_10 rr pf pk pm co kind w h n = (-1) → ¬ gR_pattern_12 rr pf pk pm co kind w h n = 0 := by
  unfold gR_pattern_10 gR_pattern_12
  by_cases c1 : fR_isIn w.toInt64 (1) (100000) = true
  · rw [if_pos c1, if_pos c1]
    by_cases c2 : fR_isIn h.toInt64 (1) (100000) = true
    · rw [if_pos c2, if_pos c2]
      by_cases c3 : fR_isIn n.toInt64 (1) (100) = true
      · rw [if_pos c3, if_pos c3]
        by_cases c4 : fR_isFour kind = true
        · rw [if_pos c4, if_pos c4]
          by_cases c5 : n.toInt64 ≤ ((fR_fits w.toInt64 (fR_space rr kind (3)) (fR_space rr kind (4))) * (fR_fits h.toInt64 (fR_space rr kind (2)) (fR_space rr kind (5))))
          · rw [if_pos c5, if_pos c5]
            intro _ q
            have g1 := xi_isIn.mp c1
            have hw1 := xh_1 g1
            have hw2 := xh_2 g1
            rw [Int64.lt_iff_toInt_lt, show (1 : Int64).toInt = 1 from by decide] at hw1
            rw [Int64.le_iff_toInt_le, show (100000 : Int64).toInt = 100000 from by decide] at hw2
            have z := xi_t32 (xi_fit ⟨by omega, hw2⟩ (xi_sp hr 3 (by decide) c4) (xi_sp hr 4 (by decide) c4)) q
            have z2 : fR_fits w.toInt64 (fR_space rr kind (3)) (fR_space rr kind (4)) = 0 := z
            rw [z2, Int64.zero_mul] at c5
            have g3 := xh_1 (xi_isIn.mp c3)
            rw [Int64.lt_iff_toInt_lt, show (1 : Int64).toInt = 1 from by decide] at g3
            rw [Int64.le_iff_toInt_le, show (0 : Int64).toInt = 0 from by decide] at c5
            omega
          · rw [if_neg c5, if_neg c5]; exact hc
        · rw [if_neg c4, if_neg c4]; exact hc
      · rw [if_neg c3, if_neg c3, ite_self, ite_self]; exact hc
    · rw [if_neg c2, if_neg c2, ite_self, ite_self]; exact hc
  · rw [if_neg c1, if_neg c1, ite_self, ite_self]; exact hc
theorem xi_uc : ∀ x, x < 127 → vp_nar .char (((nI x).toUInt32 % 65536).toInt32) = nI x := by decide
theorem xi_ut {uf tf : Nat → Int32} {len nx th zs u : Int32} (h0 : 0 ≤ len) (h1 : len ≤ 200) (e : zs = len) (h : ∀ j, j < len.toNatClampNeg → uf j = tf j) : ∀ j, j < (gN_unit_1 uf len nx u).toNatClampNeg → gN_unit_f uf len nx u j = gR_unit_f tf th zs u j := by
  subst e
  unfold gN_unit_1 gN_unit_f gR_unit_f gT_append_1 gT_append_f
  by_cases c1 : u < 32
  · simp only [if_pos c1, ite_self]; exact h
  by_cases c2 : 126 < u
  · simp only [if_pos c2, if_neg (Int32.not_le.mpr c2), ite_self]; exact h
  by_cases c3 : 200 ≤ zs
  · simp only [if_pos c3, if_neg c1, if_neg c2]; exact h
  simp only [if_neg c1, if_neg c2, if_neg c3, if_pos (Int32.not_lt.mp c2)]
  obtain ⟨a, ha, rfl⟩ := xi_200 h0 h1
  have hu : ∃ x : Nat, x < 127 ∧ u = nI x := by
    obtain ⟨x, hx, rfl⟩ := nI_of (x := u) (fun q => c1 (by rw [Int32.lt_iff_toInt_lt] at q ⊢; rw [show (32 : Int32).toInt = 32 from by decide]; rw [show (0 : Int32).toInt = 0 from by decide] at q; omega))
    rw [show (126 : Int32) = nI 126 from rfl, nI_ltI (by decide) hx] at c2
    exact ⟨x, by omega, rfl⟩
  obtain ⟨x, hx, rfl⟩ := hu
  rw [xi_uc x hx, nI_1, nI_clamp (show a < 2 ^ 31 by omega), nI_clamp (show a + 1 < 2 ^ 31 by omega)]
  rw [nI_clamp (show a < 2 ^ 31 by omega)] at h
  intro j hj
  by_cases q : j = a
  · rw [q, pk_us, pk_us]
  · rw [pk_un q, pk_un q]
    exact h j (by omega)
