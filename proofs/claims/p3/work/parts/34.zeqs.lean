/-! the class's answers are the reference's -/
theorem xq_set {we le : Int64} {wet less what pct : Int32} : gR_set_0 we le what pct = gL_set wet less what pct := by
  unfold gR_set_0 gL_set
  by_cases c : what < 0 ∨ ¬ what < 2
  · rw [if_pos c]
    rcases xi_w3 c with h | ⟨h1, h2⟩
    · rw [if_pos h]
    · rw [if_neg h1, if_neg h2]
  · rw [if_neg c, if_neg (xh_1 c)]
    rcases xi_w2 c with rfl | rfl
    · rw [if_pos (by decide), show (1 : Int64) - (0 : Int32).toInt64 = 1 from by decide]
      by_cases c2 : (pct.toInt64 < 1 ∨ ¬ pct.toInt64 ≤ 100)
      · rw [if_neg (fun q => absurd c2 (xi_isIn.mp q)), if_pos ⟨rfl, c2⟩]
      · rw [if_pos (xi_isIn.mpr c2), if_pos rfl, if_neg (fun q => c2 q.2), if_neg (fun q => q.1 rfl)]
    · rw [if_pos (by decide), show (1 : Int64) - (1 : Int32).toInt64 = 0 from by decide]
      by_cases c2 : (pct.toInt64 < 0 ∨ ¬ pct.toInt64 ≤ 100)
      · rw [if_neg (fun q => absurd c2 (xi_isIn.mp q)), if_neg (fun q => absurd q.1 (by decide)), if_pos ⟨by decide, c2⟩]
      · rw [if_pos (xi_isIn.mpr c2), if_neg (by decide), if_neg (fun q => absurd q.1 (by decide)), if_neg (fun q => c2 q.2)]
theorem xq_place {xf yf gx gy : Nat → Int32} {qn pl x y : Int32} {ou : Nat → Int64} (h0 : 0 ≤ qn) (h1 : qn ≤ 32) (e : pl = qn) : gR_place_0 xf yf pl x y = gL_place gx gy qn x y ou ∧ (gL_place gx gy qn x y ou = 0 → gL_place_f gx gy qn x y ou (0 : Int32).toNatClampNeg = (gR_place xf yf pl x y).toInt64) := by
  subst e
  unfold gR_place_0 gL_place gL_place_f gR_place gN_place
  by_cases c1 : x.toInt64 < 0 ∨ ¬ x.toInt64 ≤ 100000
  · simp only [if_pos c1, if_neg (fun q => absurd c1 (xi_isIn.mp q))]
    exact ⟨trivial, fun q => absurd q (by decide)⟩
  · simp only [if_neg c1, if_pos (xi_isIn.mpr c1)]
    by_cases c2 : y.toInt64 < 0 ∨ ¬ y.toInt64 ≤ 100000
    · simp only [if_pos c2, if_neg (fun q => absurd c2 (xi_isIn.mp q))]
      exact ⟨trivial, fun q => absurd q (by decide)⟩
    · simp only [if_neg c2, if_pos (xi_isIn.mpr c2)]
      rw [Int32.le_iff_toInt_le] at h0 h1
      obtain ⟨a, ha, rfl⟩ := nI_of (x := pl) (by rw [Int32.lt_iff_toInt_lt]; exact Int.not_lt.mpr h0)
      rw [nI_toInt ha, show (32 : Int32).toInt = 32 from by decide] at h1
      have q1 : nI a < 32 ↔ a < 32 := nI_ltI (b := 32) ha (by decide)
      have q2 : nI a = 32 ↔ a = 32 := nI_eq (b := 32) ha (by decide)
      by_cases c3 : a < 32
      · have k1 : ¬ nI a = 32 := fun q => absurd (q2.mp q) (by omega)
        have k2 : ¬ ¬ nI a < 32 := fun q => q (q1.mpr c3)
        simp only [if_neg k1, if_neg k2]
        exact ⟨trivial, fun _ => pk_uLs⟩
      · have k1 : nI a = 32 := q2.mpr (by omega)
        have k2 : ¬ nI a < 32 := fun q => c3 (q1.mp q)
        simp only [if_pos k1, if_pos k2]
        exact ⟨trivial, fun q => absurd q (by decide)⟩
/-! rows -/
theorem xq_mul {a b : Int} (h0 : 0 ≤ a) (h1 : a ≤ 100) (g0 : -1 ≤ b) (g1 : b ≤ 999) : -100 ≤ a * b ∧ a * b ≤ 99900 := by
  have k1 : a * b ≤ a * 999 := Int.mul_le_mul_of_nonneg_left g1 h0
  have k2 : a * (-1) ≤ a * b := Int.mul_le_mul_of_nonneg_left g0 h0
  omega
theorem xq_A {less n : Int32} (h0 : 0 ≤ less.toInt) (h1 : less.toInt ≤ 100) (g0 : 0 ≤ n.toInt) (g1 : n.toInt ≤ 1000) : (100 - (less * (n - 1)) : Int32).toInt = 100 - less.toInt * (n.toInt - 1) ∧ (100 - (less.toInt64 * (n.toInt64 - 1)) : Int64).toInt = 100 - less.toInt * (n.toInt - 1) := by
  have k := xq_mul h0 h1 (show -1 ≤ n.toInt - 1 by omega) (show n.toInt - 1 ≤ 999 by omega)
  have e1 : (n - 1 : Int32).toInt = n.toInt - 1 := by
    rw [Int32.toInt_sub, show (1 : Int32).toInt = 1 from by decide, Int.bmod_eq_of_le (by omega) (by omega)]
  have e2 : (less * (n - 1) : Int32).toInt = less.toInt * (n.toInt - 1) := by
    rw [Int32.toInt_mul, e1, Int.bmod_eq_of_le (by omega) (by omega)]
  have f1 : (n.toInt64 - 1 : Int64).toInt = n.toInt - 1 := by
    rw [Int64.toInt_sub, Int32.toInt_toInt64, show (1 : Int64).toInt = 1 from by decide, Int.bmod_eq_of_le (by omega) (by omega)]
  have f2 : (less.toInt64 * (n.toInt64 - 1) : Int64).toInt = less.toInt * (n.toInt - 1) := by
    rw [Int64.toInt_mul, f1, Int32.toInt_toInt64, Int.bmod_eq_of_le (by omega) (by omega)]
  refine ⟨?_, ?_⟩
  · rw [Int32.toInt_sub, e2, show (100 : Int32).toInt = 100 from by decide, Int.bmod_eq_of_le (by omega) (by omega)]
  · rw [Int64.toInt_sub, f2, show (100 : Int64).toInt = 100 from by decide, Int.bmod_eq_of_le (by omega) (by omega)]
theorem xq_held {less n : Int32} {one : Int64} (h0 : 0 ≤ less.toInt) (h1 : less.toInt ≤ 100) (g0 : 0 ≤ n.toInt) (g1 : n.toInt ≤ 1000) : fN_heldByRow less n one = fR_all less.toInt64 n.toInt64 one := by
  obtain ⟨e1, e2⟩ := xq_A h0 h1 g0 g1
  have e3 : (100 - (less * (n - 1)) : Int32).toInt64 = 100 - (less.toInt64 * (n.toInt64 - 1)) := Int64.toInt_inj.mp (by rw [Int32.toInt_toInt64, e1, e2])
  unfold fN_heldByRow fR_all
  by_cases c : (50 : Int32) < 100 - (less * (n - 1))
  · have c2 : (50 : Int64) ≤ 100 - (less.toInt64 * (n.toInt64 - 1)) := by
      rw [Int64.le_iff_toInt_le, e2, show (50 : Int64).toInt = 50 from by decide]
      rw [Int32.lt_iff_toInt_lt, e1, show (50 : Int32).toInt = 50 from by decide] at c
      omega
    rw [if_pos c, if_pos c2, e3]
  · rw [if_neg c, show (50 : Int32).toInt64 = 50 from by decide]
    by_cases c2 : (50 : Int64) ≤ 100 - (less.toInt64 * (n.toInt64 - 1))
    · have c3 : (100 : Int64) - (less.toInt64 * (n.toInt64 - 1)) = 50 := by
        refine Int64.toInt_inj.mp ?_
        rw [Int64.le_iff_toInt_le, e2, show (50 : Int64).toInt = 50 from by decide] at c2
        rw [Int32.lt_iff_toInt_lt, e1, show (50 : Int32).toInt = 50 from by decide] at c
        rw [e2, show (50 : Int64).toInt = 50 from by decide]
        omega
      rw [if_pos c2, c3]
    · rw [if_neg c2]
theorem xq_i2 {x : Int32} {lo hi : Int64} (c : ¬ (x.toInt64 < lo ∨ ¬ x.toInt64 ≤ hi)) : lo.toInt ≤ x.toInt ∧ x.toInt ≤ hi.toInt := by
  have k1 := xh_1 c
  have k2 := xh_2 c
  rw [Int64.lt_iff_toInt_lt, Int32.toInt_toInt64] at k1
  rw [Int64.le_iff_toInt_le, Int32.toInt_toInt64] at k2
  omega
theorem xq_together {less n : Int32} {le one : Int64} {ou : Nat → Int64} (h0 : 0 ≤ less) (h1 : less ≤ 100) (e : le = less.toInt64) : gR_together_0 le n one = gL_together less n one ou ∧ (gL_together less n one ou = 0 → gL_together_f less n one ou (0 : Int32).toNatClampNeg = gR_together le n one) := by
  subst e
  rw [Int32.le_iff_toInt_le] at h0 h1
  unfold gR_together_0 gL_together gL_together_f gR_together fN_together
  by_cases c1 : n.toInt64 < 0 ∨ ¬ n.toInt64 ≤ 1000
  · simp only [if_pos c1, if_neg (fun q => absurd c1 (xi_isIn.mp q))]
    exact ⟨trivial, fun q => absurd q (by decide)⟩
  · simp only [if_neg c1, if_pos (xi_isIn.mpr c1)]
    by_cases c2 : one < 0 ∨ ¬ one ≤ 1000000000000
    · simp only [if_pos c2, if_neg (fun q => absurd c2 (xi_isIn.mp q))]
      exact ⟨trivial, fun q => absurd q (by decide)⟩
    · simp only [if_neg c2, if_pos (xi_isIn.mpr c2)]
      have k := xq_i2 c1
      rw [show (0 : Int64).toInt = 0 from by decide, show (1000 : Int64).toInt = 1000 from by decide] at k
      exact ⟨trivial, fun _ => pk_uLs.trans (xq_held h0 h1 k.1 k.2)⟩
theorem xq_cnt {less : Int32} {load one : Int64} (h0 : 0 ≤ less.toInt) (h1 : less.toInt ≤ 100) : ∀ (n : Nat) (wn : Int32), xl_c 1 101 n wn → kR_count_34c_0 less.toInt64 load one n wn = kN_count_19a less load one n wn ∧ kR_count_34c_1 less.toInt64 load one n wn = 0 := by
  intro n
  induction n with
  | zero => intro wn h; exact xl_0 h
  | succ n ih =>
    intro wn h
    unfold kR_count_34c_0 kR_count_34c_1 kN_count_19a
    by_cases c : 100 < wn
    · have c2 : ¬ wn ≤ 100 := fun q => absurd c (Int32.not_lt.mpr q)
      simp only [if_pos c, if_neg c2, and_self]
    · have c2 : wn ≤ 100 := Int32.not_lt.mp c
      have h2 := xl_s2 (b := 100) h (by decide) (by decide) c
      obtain ⟨i, rfl, k1, k2, k3⟩ := h
      simp only [if_neg c, if_pos c2]
      have e := xq_held (less := less) (n := nI i) (one := one) h0 h1 (by rw [nI_toInt (by omega)]; omega) (by rw [nI_toInt (by omega)]; omega)
      rw [e]
      by_cases c3 : load ≤ fR_all less.toInt64 (nI i).toInt64 one
      · simp only [if_pos c3, if_neg (Int64.not_lt.mpr c3), and_self]
      · simp only [if_neg c3, if_pos (Int64.not_le.mp c3)]
        exact ih _ h2
theorem xq_count {less : Int32} {le load one : Int64} {ou : Nat → Int64} (h0 : 0 ≤ less) (h1 : less ≤ 100) (e : le = less.toInt64) : gR_count_0 le load one = gL_count less load one ou ∧ (gL_count less load one ou = 0 → gL_count_f less load one ou (0 : Int32).toNatClampNeg = (gR_count le load one).toInt64) := by
  subst e
  rw [Int32.le_iff_toInt_le] at h0 h1
  unfold gR_count_0 gL_count gL_count_f gR_count fN_count
  by_cases c1 : load < 0 ∨ ¬ load ≤ 1000000000000
  · simp only [if_pos c1, if_neg (fun q => absurd c1 (xi_isIn.mp q))]
    exact ⟨rfl, fun q => absurd q (by decide)⟩
  · simp only [if_neg c1, if_pos (xi_isIn.mpr c1)]
    by_cases c2 : one < 0 ∨ ¬ one ≤ 1000000000000
    · simp only [if_pos c2, if_neg (fun q => absurd c2 (xi_isIn.mp q))]
      exact ⟨rfl, fun q => absurd q (by decide)⟩
    · simp only [if_neg c2, if_pos (xi_isIn.mpr c2)]
      have k := xq_cnt (load := load) (one := one) h0 h1 101 1 ⟨1, rfl, by omega, by omega, by omega⟩
      rw [k.1, k.2]
      exact ⟨rfl, fun _ => pk_uLs⟩
/-! members -/
theorem xq_grip {ef wf : Nat → Int32} {x y : Int32} {i : Nat} (hi : i ≤ 5) : fM_grips (ef (4 * i)).toInt64 (ef (4 * i + 1)).toInt64 (ef (4 * i + 2) - ef (4 * i)).toInt64 (ef (4 * i + 3) - ef (4 * i + 1)).toInt64 (wf i).toInt64 x y = fR_isWithin ef wf (nI i) x.toInt64 y.toInt64 := by
  obtain ⟨e0, e1, e2, e3, e4⟩ := xz_c hi
  unfold fM_grips fR_isWithin
  rw [e0, e1, e2, e3, e4]
  generalize (ef (4 * i + 2) - ef (4 * i)).toInt64 = ax
  generalize (ef (4 * i + 3) - ef (4 * i + 1)).toInt64 = ay
  generalize (ef (4 * i)).toInt64 = x0
  generalize (ef (4 * i + 1)).toInt64 = y0
  generalize (wf i).toInt64 = wd
  generalize ax * (x.toInt64 - x0) + ay * (y.toInt64 - y0) = al
  generalize ax * ax + ay * ay = ln
  by_cases c1 : al < 0
  · rw [if_pos c1, if_pos c1]
  · rw [if_neg c1, if_neg c1]
    by_cases c2 : al ≤ ln
    · rw [if_pos c2, if_neg (Int64.not_lt.mpr c2)]
    · rw [if_neg c2, if_pos (Int64.not_le.mp c2)]
theorem xq_no {k : Nat} {X : Int32} (hk : k ≤ 6) : fR_noMember (nI k) X = true ↔ (X < 0 ∨ ¬ X < fA_size (nI k)) := by
  unfold fR_noMember fA_size
  by_cases c1 : X < 0
  · simp [c1]
  · by_cases c2 : X < nI k
    · simp [c1, c2]
    · simp [c1, c2]
theorem xq_in {ef wf : Nat → Int32} {mb sn X x y : Int32} {k : Nat} {ou : Nat → Int64} (hk : k ≤ 6) (e : mb = nI k) (e2 : sn = nI k) (hb : (X < 0 ∨ ¬ X < fA_size sn) ∨ (x.toInt64 < (-10000) ∨ ¬ x.toInt64 ≤ 10000) ∨ (y.toInt64 < (-10000) ∨ ¬ y.toInt64 ≤ 10000)) : gR_in_0 ef wf mb X x y = gL_in_b sn X x y ou ∧ ¬ gL_in_b sn X x y ou = 0 := by
  subst e e2
  unfold gR_in_0 gL_in_b
  by_cases c1 : X < 0 ∨ ¬ X < fA_size (nI k)
  · rw [if_pos c1, if_pos ((xq_no hk).mpr c1)]; exact ⟨rfl, by decide⟩
  · rw [if_neg c1, if_neg (fun q => c1 ((xq_no hk).mp q))]
    simp only [ite_self]
    by_cases c2 : x.toInt64 < (-10000) ∨ ¬ x.toInt64 ≤ 10000
    · rw [if_neg (fun q => xz_pl.mp q c2)]; exact ⟨rfl, by decide⟩
    · rw [if_pos (xz_pl.mpr c2)]
      have c3 : y.toInt64 < (-10000) ∨ ¬ y.toInt64 ≤ 10000 := (hb.resolve_left c1).resolve_left c2
      rw [if_neg (fun q => xz_pl.mp q c3)]; exact ⟨rfl, by decide⟩
theorem xq_ing {ef wf : Nat → Int32} {mb X x y : Int32} {i k : Nat} {ou : Nat → Int64} (hk : k ≤ 6) (e : mb = nI k) (hi : i < k) (eX : X = nI i) (cx : ¬ (x.toInt64 < (-10000) ∨ ¬ x.toInt64 ≤ 10000)) (cy : ¬ (y.toInt64 < (-10000) ∨ ¬ y.toInt64 ≤ 10000)) :
    gR_in_0 ef wf mb X x y = gL_in_g (ef (4 * i)).toInt64 (ef (4 * i + 1)).toInt64 (ef (4 * i + 2) - ef (4 * i)).toInt64 (ef (4 * i + 3) - ef (4 * i + 1)).toInt64 (wf i).toInt64 x y ou ∧ gL_in_g_f (ef (4 * i)).toInt64 (ef (4 * i + 1)).toInt64 (ef (4 * i + 2) - ef (4 * i)).toInt64 (ef (4 * i + 3) - ef (4 * i + 1)).toInt64 (wf i).toInt64 x y ou (0 : Int32).toNatClampNeg = if gR_in ef wf mb X x y = true then 1 else 0 := by
  subst e eX
  have c1 : ¬ fR_noMember (nI k) (nI i) = true := by
    rw [xq_no hk]
    unfold fA_size
    intro q
    rcases q with q | q
    · exact nI_pos (by omega) q
    · exact q (nI_lt hi (by omega))
  unfold gR_in_0 gL_in_g gL_in_g_f gR_in fN_in
  rw [xq_grip (by omega)]
  simp only [if_neg c1, if_pos (xz_pl.mpr cx), if_pos (xz_pl.mpr cy), ite_self]
  refine ⟨trivial, ?_⟩
  by_cases c : fR_isWithin ef wf (nI i) x.toInt64 y.toInt64 = true
  · simp only [if_pos c]; exact pk_uLs
  · simp only [if_neg c]; exact pk_uLs
/-! teeth -/
theorem xq_t1 {ef wf : Nat → Int32} {mb x y w h stp nn wi : Int32} {i : Nat} (hi : i ≤ 5) {K1 K2 : Int32 → Int32 → Int32} (hK : ∀ a b, K1 a b = K2 a b) : ∀ (n : Nat) (n2 wj : Int32), kN_teeth_94a (ef (4 * i)).toInt64 (ef (4 * i + 1)).toInt64 (ef (4 * i + 2) - ef (4 * i)).toInt64 (ef (4 * i + 3) - ef (4 * i + 1)).toInt64 (wf i).toInt64 x y w h stp nn wi K1 n n2 wj = kR_teeth_111a_0 ef wf mb (nI i) x y w h stp nn wi K2 n n2 wj := by
  intro n
  induction n with
  | zero => intro n2 wj; rfl
  | succ n ih =>
    intro n2 wj
    unfold kN_teeth_94a kR_teeth_111a_0
    rw [xq_grip hi]
    by_cases c : h < wj
    · rw [if_pos c, if_pos c]; exact hK _ _
    · rw [if_neg c, if_neg c]
      by_cases c2 : fR_isWithin ef wf (nI i) (x + wi).toInt64 (y + wj).toInt64 = true
      · rw [if_pos c2, if_pos c2]; exact ih _ _
      · rw [if_neg c2, if_neg c2]; exact ih _ _
theorem xq_t2 {ef wf : Nat → Int32} {mb x y w h stp : Int32} {i : Nat} (hi : i ≤ 5) : ∀ (n : Nat) (nn wi : Int32), kN_teeth_84a (ef (4 * i)).toInt64 (ef (4 * i + 1)).toInt64 (ef (4 * i + 2) - ef (4 * i)).toInt64 (ef (4 * i + 3) - ef (4 * i + 1)).toInt64 (wf i).toInt64 x y w h stp n nn wi = kR_teeth_94k_0 ef wf mb (nI i) x y w h stp n nn wi := by
  intro n
  induction n with
  | zero => intro nn wi; rfl
  | succ n ih =>
    intro nn wi
    unfold kN_teeth_84a kR_teeth_94k_0
    by_cases c : w < wi
    · rw [if_pos c, if_pos c]
    · rw [if_neg c, if_neg c]
      exact xq_t1 hi (fun a b => ih a b) _ _ _
theorem xq_t3 {ef wf : Nat → Int32} {mb m1 x y w h stp nn wi : Int32} {K : Int32 → Int32 → Int32} (hK : ∀ a b, K a b = 0) : ∀ (n : Nat) (n2 wj : Int32), kR_teeth_111a_1 ef wf mb m1 x y w h stp nn wi K n n2 wj = 0 := by
  intro n
  induction n with
  | zero => intro n2 wj; rfl
  | succ n ih =>
    intro n2 wj
    unfold kR_teeth_111a_1
    repeat' split
    all_goals first | exact hK _ _ | exact ih _ _
theorem xq_t4 {ef wf : Nat → Int32} {mb m1 x y w h stp : Int32} : ∀ (n : Nat) (nn wi : Int32), kR_teeth_94k_1 ef wf mb m1 x y w h stp n nn wi = 0 := by
  intro n
  induction n with
  | zero => intro nn wi; rfl
  | succ n ih =>
    intro nn wi
    unfold kR_teeth_94k_1
    split
    · rfl
    · exact xq_t3 (fun a b => ih a b) _ _ _
theorem xq_te {ef wf : Nat → Int32} {mb sn X x y w h stp : Int32} {k : Nat} {ou : Nat → Int64} (hk : k ≤ 6) (e : mb = nI k) (e2 : sn = nI k) (hb : (X < 0 ∨ ¬ X < fA_size sn) ∨ (x.toInt64 < (-10000) ∨ ¬ x.toInt64 ≤ 10000) ∨ (y.toInt64 < (-10000) ∨ ¬ y.toInt64 ≤ 10000) ∨ (w.toInt64 < 0 ∨ ¬ w.toInt64 ≤ 1000) ∨ (h.toInt64 < 0 ∨ ¬ h.toInt64 ≤ 1000) ∨ (stp.toInt64 < 10 ∨ ¬ stp.toInt64 ≤ 1000)) : gR_teeth_0 ef wf mb X x y w h stp = gL_teeth_b sn X x y w h stp ou ∧ ¬ gL_teeth_b sn X x y w h stp ou = 0 := by
  subst e e2
  unfold gR_teeth_0 gL_teeth_b
  by_cases c1 : X < 0 ∨ ¬ X < fA_size (nI k)
  · have d1 := (xq_no hk).mpr c1
    simp only [if_pos c1, if_pos d1]
    refine ⟨?_, by decide⟩
    repeat' split
    all_goals rfl
  · have d1 : ¬ fR_noMember (nI k) X = true := fun q => c1 ((xq_no hk).mp q)
    simp only [if_neg c1, if_neg d1, ite_self]
    refine ⟨?_, by decide⟩
    by_cases c2 : x.toInt64 < (-10000) ∨ ¬ x.toInt64 ≤ 10000
    · rw [if_neg (fun q => xz_pl.mp q c2)]; rfl
    · rw [if_pos (xz_pl.mpr c2)]
      by_cases c3 : y.toInt64 < (-10000) ∨ ¬ y.toInt64 ≤ 10000
      · rw [if_neg (fun q => xz_pl.mp q c3)]; rfl
      · rw [if_pos (xz_pl.mpr c3)]
        by_cases c4 : w.toInt64 < 0 ∨ ¬ w.toInt64 ≤ 1000
        · rw [if_neg (fun q => xi_isIn.mp q c4)]; rfl
        · rw [if_pos (xi_isIn.mpr c4)]
          by_cases c5 : h.toInt64 < 0 ∨ ¬ h.toInt64 ≤ 1000
          · rw [if_neg (fun q => xi_isIn.mp q c5)]; rfl
          · rw [if_pos (xi_isIn.mpr c5)]
            have c6 := ((((hb.resolve_left c1).resolve_left c2).resolve_left c3).resolve_left c4).resolve_left c5
            rw [if_neg (fun q => xi_isIn.mp q c6)]; rfl
theorem xq_teg {ef wf : Nat → Int32} {mb X x y w h stp : Int32} {i k : Nat} {ou : Nat → Int64} (hk : k ≤ 6) (e : mb = nI k) (hi : i < k) (eX : X = nI i) (cx : ¬ (x.toInt64 < (-10000) ∨ ¬ x.toInt64 ≤ 10000)) (cy : ¬ (y.toInt64 < (-10000) ∨ ¬ y.toInt64 ≤ 10000)) (cw : ¬ (w.toInt64 < 0 ∨ ¬ w.toInt64 ≤ 1000)) (ch : ¬ (h.toInt64 < 0 ∨ ¬ h.toInt64 ≤ 1000)) (cs : ¬ (stp.toInt64 < 10 ∨ ¬ stp.toInt64 ≤ 1000)) :
    gR_teeth_0 ef wf mb X x y w h stp = 0 ∧ gL_teeth_g_f (ef (4 * i)).toInt64 (ef (4 * i + 1)).toInt64 (ef (4 * i + 2) - ef (4 * i)).toInt64 (ef (4 * i + 3) - ef (4 * i + 1)).toInt64 (wf i).toInt64 x y w h stp ou (0 : Int32).toNatClampNeg = (gR_teeth ef wf mb X x y w h stp).toInt64 := by
  subst e eX
  have c1 : ¬ fR_noMember (nI k) (nI i) = true := by
    rw [xq_no hk]
    unfold fA_size
    intro q
    rcases q with q | q
    · exact nI_pos (by omega) q
    · exact q (nI_lt hi (by omega))
  unfold gR_teeth_0 gL_teeth_g_f gR_teeth fN_teeth
  simp only [if_neg c1, if_pos (xz_pl.mpr cx), if_pos (xz_pl.mpr cy), if_pos (xi_isIn.mpr cw), if_pos (xi_isIn.mpr ch), if_pos (xi_isIn.mpr cs)]
  refine ⟨xq_t4 _ _ _, ?_⟩
  rw [xq_t2 (mb := nI k) (by omega)]
  exact pk_uLs
/-! member -/
theorem xq_mb {ef wf : Nat → Int32} {mb sn x0 y0 x1 y1 wd : Int32} {k : Nat} {ou : Nat → Int64} (hk : k ≤ 6) (e : mb = nI k) (e2 : sn = nI k) (hb : xz_B sn x0 y0 x1 y1 wd) : gR_member_0 ef wf mb x0 y0 x1 y1 wd = gL_member_b sn x0 y0 x1 y1 wd ou ∧ ¬ gL_member_b sn x0 y0 x1 y1 wd ou = 0 := by
  subst e e2
  unfold gR_member_0 gL_member_b
  by_cases c1 : x0.toInt64 < (-10000) ∨ ¬ x0.toInt64 ≤ 10000
  · simp only [if_pos c1, if_neg (fun q => xz_pl.mp q c1)]; exact ⟨trivial, by decide⟩
  simp only [if_neg c1, if_pos (xz_pl.mpr c1)]
  by_cases c2 : y0.toInt64 < (-10000) ∨ ¬ y0.toInt64 ≤ 10000
  · simp only [if_pos c2, if_neg (fun q => xz_pl.mp q c2)]; exact ⟨trivial, by decide⟩
  simp only [if_neg c2, if_pos (xz_pl.mpr c2)]
  by_cases c3 : x1.toInt64 < (-10000) ∨ ¬ x1.toInt64 ≤ 10000
  · simp only [if_pos c3, if_neg (fun q => xz_pl.mp q c3)]; exact ⟨trivial, by decide⟩
  simp only [if_neg c3, if_pos (xz_pl.mpr c3)]
  by_cases c4 : y1.toInt64 < (-10000) ∨ ¬ y1.toInt64 ≤ 10000
  · simp only [if_pos c4, if_neg (fun q => xz_pl.mp q c4)]; exact ⟨trivial, by decide⟩
  simp only [if_neg c4, if_pos (xz_pl.mpr c4)]
  by_cases c5 : x0 = x1 ∧ y0 = y1
  · simp only [if_pos c5, if_pos c5.1, if_pos c5.2]; exact ⟨trivial, by decide⟩
  simp only [if_neg c5]
  have hq : ∀ z : Int32, (if x0 = x1 then (if y0 = y1 then (1 : Int32) else z) else z) = z := by
    intro z
    by_cases d1 : x0 = x1
    · rw [if_pos d1, if_neg (fun q => c5 ⟨d1, q⟩)]
    · rw [if_neg d1]
  by_cases c6 : wd.toInt64 < 1 ∨ ¬ wd.toInt64 ≤ 10000
  · simp only [if_pos c6, if_neg (fun q => xi_isIn.mp q c6)]; exact ⟨hq _, by decide⟩
  simp only [if_neg c6, if_pos (xi_isIn.mpr c6)]
  have c7 := (((((hb.resolve_left c1).resolve_left c2).resolve_left c3).resolve_left c4).resolve_left c5).resolve_left c6
  simp only [if_pos ((xz_6 hk).mpr c7)]
  exact ⟨hq _, by decide⟩
theorem xq_mg {ef wf : Nat → Int32} {mb sn x0 y0 x1 y1 wd : Int32} {k : Nat} (hk : k ≤ 6) (e : mb = nI k) (e2 : sn = nI k) (h : ¬ xz_B sn x0 y0 x1 y1 wd) : gR_member_0 ef wf mb x0 y0 x1 y1 wd = 0 ∧ gR_member ef wf mb x0 y0 x1 y1 wd = (mb + 1) - 1 := by
  subst e e2
  have c1 : fR_isPlace x0 = true := xz_pl.mpr (fun q => h (Or.inl q))
  have c2 : fR_isPlace y0 = true := xz_pl.mpr (fun q => h (Or.inr (Or.inl q)))
  have c3 : fR_isPlace x1 = true := xz_pl.mpr (fun q => h (Or.inr (Or.inr (Or.inl q))))
  have c4 : fR_isPlace y1 = true := xz_pl.mpr (fun q => h (Or.inr (Or.inr (Or.inr (Or.inl q)))))
  have c5 : ¬ (x0 = x1 ∧ y0 = y1) := fun q => h (Or.inr (Or.inr (Or.inr (Or.inr (Or.inl q)))))
  have c6 : fR_isIn wd.toInt64 (1) (10000) = true := xi_isIn.mpr (fun q => h (Or.inr (Or.inr (Or.inr (Or.inr (Or.inr (Or.inl q)))))))
  have c7 : ¬ nI k = 6 := fun q => h (Or.inr (Or.inr (Or.inr (Or.inr (Or.inr (Or.inr ((xz_6 hk).mp q)))))))
  unfold gR_member_0 gR_member
  simp only [if_pos c1, if_pos c2, if_pos c3, if_pos c4, if_pos c6, if_neg c7]
  by_cases c8 : x0 = x1
  · simp only [if_pos c8, if_neg (fun q => c5 ⟨c8, q⟩), and_self]
  · simp only [if_neg c8, and_self]
theorem xq_mf {ee ww : Nat → Int32} {mb sn x0 y0 x1 y1 wd : Int32} {k : Nat} {ou : Nat → Int64} (hk : k = 0) (e : mb = nI k) (h : gR_member ee ww mb x0 y0 x1 y1 wd = (mb + 1) - 1) (hb : ¬ xz_B sn x0 y0 x1 y1 wd) : gL_member_f_f x0 y0 x1 y1 wd ou (0 : Int32).toNatClampNeg = (gR_member ee ww mb x0 y0 x1 y1 wd).toInt64 := by
  rw [h, e, hk]
  unfold gL_member_f_f gN_member_f
  refine pk_uLs.trans ?_
  unfold fA_size
  repeat' split
  all_goals rfl
theorem xq_mm {ee ww : Nat → Int32} {mb sn x0 y0 x1 y1 wd : Int32} {k : Nat} {ou : Nat → Int64} (e : mb = nI k) (e2 : sn = nI k) (h : gR_member ee ww mb x0 y0 x1 y1 wd = (mb + 1) - 1) (hb : ¬ xz_B sn x0 y0 x1 y1 wd) : gL_member_m_f sn x0 y0 x1 y1 wd ou (0 : Int32).toNatClampNeg = (gR_member ee ww mb x0 y0 x1 y1 wd).toInt64 := by
  rw [h, e, ← e2]
  unfold gL_member_m_f gN_member_m
  refine pk_uLs.trans ?_
  unfold fA_size
  repeat' split
  all_goals rfl
