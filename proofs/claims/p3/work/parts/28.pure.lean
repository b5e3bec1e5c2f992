def xr_K (tf : Nat → Int32) (zs pq fb : Int32) : Int32 := fR_kindOf (fR_now tf zs pq)
def xr_P1 (tf : Nat → Int32) (zs pq fb : Int32) : Int32 := gR_must_3 pq fb (xb_bi (decide (¬ ((xr_K tf zs pq fb) = (-1)))))
def xr_F1 (tf : Nat → Int32) (zs pq fb : Int32) : Int32 := gR_must_4 pq fb (xb_bi (decide (¬ ((xr_K tf zs pq fb) = (-1)))))
def xr_P2 (tf : Nat → Int32) (zs pq fb : Int32) : Int32 := gR_must_3 (xr_P1 tf zs pq fb) (xr_F1 tf zs pq fb) (xb_bi (decide ((fR_now tf zs (xr_P1 tf zs pq fb)) = 32)))
def xr_F2 (tf : Nat → Int32) (zs pq fb : Int32) : Int32 := gR_must_4 (xr_P1 tf zs pq fb) (xr_F1 tf zs pq fb) (xb_bi (decide ((fR_now tf zs (xr_P1 tf zs pq fb)) = 32)))
def xr_W (tf lf : Nat → Int32) (zs pq fb : Int32) : Int32 := gR_word tf lf zs (xr_P2 tf zs pq fb) (xr_F2 tf zs pq fb)
def xr_P3 (tf lf : Nat → Int32) (zs pq fb : Int32) : Int32 := gR_word_3 tf lf zs (xr_P2 tf zs pq fb) (xr_F2 tf zs pq fb)
def xr_F3 (tf lf : Nat → Int32) (zs pq fb : Int32) : Int32 := gR_word_4 tf lf zs (xr_P2 tf zs pq fb) (xr_F2 tf zs pq fb)
def xr_P4 (tf lf : Nat → Int32) (zs pq fb : Int32) : Int32 := gR_must_3 (xr_P3 tf lf zs pq fb) (xr_F3 tf lf zs pq fb) (xb_bi (decide ((fR_now tf zs (xr_P3 tf lf zs pq fb)) = 32)))
def xr_F4 (tf lf : Nat → Int32) (zs pq fb : Int32) : Int32 := gR_must_4 (xr_P3 tf lf zs pq fb) (xr_F3 tf lf zs pq fb) (xb_bi (decide ((fR_now tf zs (xr_P3 tf lf zs pq fb)) = 32)))
def xr_V (tf lf : Nat → Int32) (zs pq fb : Int32) : Int32 := gR_number tf zs (xr_P4 tf lf zs pq fb) (xr_F4 tf lf zs pq fb)
def xr_P5 (tf lf : Nat → Int32) (zs pq fb : Int32) : Int32 := gR_number_3 tf zs (xr_P4 tf lf zs pq fb) (xr_F4 tf lf zs pq fb)
def xr_F5 (tf lf : Nat → Int32) (zs pq fb : Int32) : Int32 := gR_number_4 tf zs (xr_P4 tf lf zs pq fb) (xr_F4 tf lf zs pq fb)
def xr_M (tf : Nat → Int32) (zs pp nn : Int32) : Int32 := if 16 ≤ nn then 0 else if (fR_now tf zs pp) = 59 then 1 else 0
/-! the reference's reading: places stay within the text, what is read is in its bounds -/
def xr_at (zs pq : Int32) : Prop := ∃ b Z : Nat, pq = nI b ∧ zs = nI Z ∧ b ≤ Z ∧ Z ≤ 200
def xr_G (f : Nat → Int32) : Prop := ∀ j, j < 28 → 1 ≤ (f j).toInt ∧ (f j).toInt ≤ 9999
def xr_row (dq : Nat → Int32) (j : Nat) : Prop := (∃ a : Nat, a < 4 ∧ dq (3 * j) = nI a) ∧ (∃ w : Nat, w < 7 ∧ dq (3 * j + 1) = nI w) ∧ ∃ x : Nat, 1 ≤ x ∧ x ≤ 9999 ∧ dq (3 * j + 2) = nI x
def xr_I (n : Nat) (zs n9 mr pq fb : Int32) (dq : Nat → Int32) : Prop := (∃ i : Nat, n9 = nI i ∧ i + n = 17 ∧ i ≤ 16 ∧ (¬ mr = 0 → i ≤ 15) ∧ (fb = -1 → ∀ j, j < i → xr_row dq j)) ∧ xr_at zs pq
theorem xr_p {n : Nat} {zs n9 mr pq fb : Int32} {dq : Nat → Int32} (h : xr_I n zs n9 mr pq fb dq) : xr_at zs pq := h.2
theorem xr_n0 {zs pq : Int32} (h : xr_at zs pq) : 0 ≤ pq := by
  obtain ⟨b, Z, rfl, -, h1, h2⟩ := h
  exact nI_pos' (by omega)
theorem xr_nm {zs pq : Int32} (h : xr_at zs pq) : ¬ pq = -1 := by
  intro q
  have h0 := xr_n0 h
  rw [q] at h0
  exact absurd h0 (by decide)
theorem xr_00 {zs pq : Int32} (h : xr_at zs pq) : xr_at zs 0 := by
  obtain ⟨b, Z, -, e, h1, h2⟩ := h
  exact ⟨0, Z, rfl, e, by omega, h2⟩
theorem xr_200 {zs pq : Int32} (_ : zs ≤ 200) (h : xr_at zs pq) : ∃ b : Nat, pq = nI b ∧ b ≤ 200 := by
  obtain ⟨b, Z, e, -, h1, h2⟩ := h
  exact ⟨b, e, by omega⟩
theorem xr_up {zs pq : Int32} (h : xr_at zs pq) (c : ¬ zs ≤ pq) : xr_at zs (pq + 1) := by
  obtain ⟨b, Z, rfl, rfl, h1, h2⟩ := h
  rw [nI_leI (by omega) (by omega)] at c
  exact ⟨b + 1, Z, nI_1 b, rfl, by omega, h2⟩
theorem xr_now {tf : Nat → Int32} {zs pq : Int32} (h : ¬ fR_now tf zs pq = -1) : ¬ zs ≤ pq := by
  intro q
  unfold fR_now at h
  rw [if_pos q] at h
  exact h rfl
theorem xr_m3 {zs po fa is : Int32} (h : xr_at zs po) (hi : ¬ is = 0 → ¬ zs ≤ po) : xr_at zs (gR_must_3 po fa is) := by
  unfold gR_must_3
  by_cases c1 : fa = -1
  · rw [if_pos c1]
    by_cases c2 : is = 0
    · rw [if_pos c2, if_neg (xr_nm h)]; exact h
    · rw [if_neg c2, if_pos c1]; exact xr_up h (hi c2)
  · rw [if_neg c1, if_neg c1]; exact h
theorem xr_m4 {zs po fa is : Int32} (h : xr_at zs po) (e : gR_must_4 po fa is = -1) : fa = -1 ∧ ¬ is = 0 := by
  unfold gR_must_4 at e
  by_cases c1 : fa = -1
  · rw [if_pos c1] at e
    by_cases c2 : is = 0
    · rw [if_pos c2, if_neg (xr_nm h)] at e
      exact absurd e (xr_nm h)
    · exact ⟨c1, c2⟩
  · rw [if_neg c1, if_neg c1] at e
    exact absurd e c1
theorem xr_bi {p : Prop} [Decidable p] (h : ¬ xb_bi (decide p) = 0) : p := of_decide_eq_true (xb_bi_t.mp h)
theorem xr_p1 {tf : Nat → Int32} {zs pq fb : Int32} (_ : zs ≤ 200) (h : xr_at zs pq) : xr_at zs (xr_P1 tf zs pq fb) := by
  unfold xr_P1
  refine xr_m3 h (fun q => ?_)
  have h1 := xr_bi q
  refine xr_now (tf := tf) (fun q2 => h1 ?_)
  unfold xr_K
  rw [q2]
  decide
theorem xr_n32 {tf : Nat → Int32} {zs pq : Int32} (q : ¬ xb_bi (decide (fR_now tf zs pq = 32)) = 0) : ¬ zs ≤ pq := by
  have h1 := xr_bi q
  refine xr_now (tf := tf) (fun q2 => ?_)
  rw [q2] at h1
  exact absurd h1 (by decide)
theorem xr_p2 {tf : Nat → Int32} {zs pq fb : Int32} (hs : zs ≤ 200) (h : xr_at zs pq) : xr_at zs (xr_P2 tf zs pq fb) := by
  unfold xr_P2
  exact xr_m3 (xr_p1 hs h) xr_n32
/-! words -/
def xr_w (x : Int32) : Prop := x = -1 ∨ ∃ j : Nat, j < 7 ∧ x = nI j
theorem xr_w0 : xr_w (default : Int32) := Or.inr ⟨0, by decide, rfl⟩
theorem xr_48a {tf lf : Nat → Int32} {po fr0 fo ww : Int32} {K : Int32 → Int32 → Int32} (h1 : xr_w (K fo (ww + 1))) (h2 : xr_w (K ww (ww + 1))) : ∀ (n : Nat) (sa wk : Int32), xr_w (kR_whole_48a tf lf po fr0 fo ww K n sa wk) := by
  intro n
  induction n with
  | zero => intro sa wk; exact xr_w0
  | succ n ih =>
    intro sa wk
    unfold kR_whole_48a
    repeat' split
    all_goals first | exact h1 | exact h2 | exact ih _ _
theorem xr_48b {tf lf : Nat → Int32} {po fr0 fo ww : Int32} {K : Int32 → Int32 → Int32} (h1 : xr_w (K fo (ww + 1))) (h2 : xr_w (K ww (ww + 1))) : ∀ (n : Nat) (sa wk : Int32), xr_w (kR_whole_48b tf lf po fr0 fo ww K n sa wk) := by
  intro n
  induction n with
  | zero => intro sa wk; exact xr_w0
  | succ n ih =>
    intro sa wk
    unfold kR_whole_48b
    repeat' split
    all_goals first | exact h1 | exact h2 | exact ih _ _
theorem xr_48c {tf lf : Nat → Int32} {po fr0 fo ww : Int32} {K : Int32 → Int32 → Int32} (h1 : xr_w (K fo (ww + 1))) (h2 : xr_w (K ww (ww + 1))) : ∀ (n : Nat) (sa wk : Int32), xr_w (kR_whole_48c tf lf po fr0 fo ww K n sa wk) := by
  intro n
  induction n with
  | zero => intro sa wk; exact xr_w0
  | succ n ih =>
    intro sa wk
    unfold kR_whole_48c
    repeat' split
    all_goals first | exact h1 | exact h2 | exact ih _ _
theorem xr_wh {tf lf : Nat → Int32} {po fr0 : Int32} : ∀ (n : Nat) (fo ww : Int32), xl_c 0 7 n ww → xr_w fo → xr_w (kR_whole_4a tf lf po fr0 n fo ww) := by
  intro n
  induction n with
  | zero => intro fo ww h; exact xl_0 h
  | succ n ih =>
    intro fo ww h hf
    unfold kR_whole_4a
    by_cases c : 7 ≤ ww
    · rw [if_pos c]; exact hf
    · rw [if_neg c]
      have h1 := xl_s1 (b := 7) h (by decide) (by decide) c
      have k1 := ih fo (ww + 1) h1 hf
      have k2 := ih ww (ww + 1) h1 (Or.inr (xm_5 h c))
      split
      · exact xr_48a (K := fun fo ww => kR_whole_4a tf lf po fr0 n fo ww) k1 k2 _ _ _
      · split
        · exact xr_48c (K := fun fo ww => kR_whole_4a tf lf po fr0 n fo ww) k1 k2 _ _ _
        · exact xr_48b (K := fun fo ww => kR_whole_4a tf lf po fr0 n fo ww) k1 k2 _ _ _
theorem xr_whole {tf lf : Nat → Int32} {po fr0 : Int32} : xr_w (fR_whole tf lf po fr0) := xr_wh 8 (-1) 0 ⟨0, rfl, by omega, by omega, by omega⟩ (Or.inl rfl)
/-- what the search for a next letter comes to -/
def xr_so (tf lf : Nat → Int32) (zs po pq : Int32) : Nat → Int32 → Int32 → Int32
  | 0, so, _ => so
  | n + 1, so, ww => if 7 ≤ ww then so else (if so = 0 then (if (fR_now tf zs pq) = (-1) then xr_so tf lf zs po pq n 0 (ww + 1) else (if (fR_may tf lf pq ww po (fR_now tf zs pq)) = true then xr_so tf lf zs po pq n 1 (ww + 1) else xr_so tf lf zs po pq n 0 (ww + 1))) else xr_so tf lf zs po pq n 1 (ww + 1))
theorem xr_so1 {tf lf : Nat → Int32} {zs po pq : Int32} : ∀ (n : Nat) (so ww : Int32), (¬ so = 0 → ¬ fR_now tf zs pq = -1) → ¬ xr_so tf lf zs po pq n so ww = 0 → ¬ fR_now tf zs pq = -1 := by
  intro n
  induction n with
  | zero => intro so ww h q; exact h q
  | succ n ih =>
    intro so ww h q
    unfold xr_so at q
    by_cases c : 7 ≤ ww
    · rw [if_pos c] at q; exact h q
    · rw [if_neg c] at q
      by_cases c2 : so = 0
      · rw [if_pos c2] at q
        by_cases c3 : fR_now tf zs pq = -1
        · rw [if_pos c3] at q
          exact ih _ _ (fun z => absurd rfl z) q
        · exact c3
      · exact h c2
theorem xr_so2 {tf lf : Nat → Int32} {zs po fa pq fb : Int32} {K : Int32 → Int32 → Int32} : ∀ (n : Nat) (so ww : Int32), xl_c 0 7 n ww →
    kR_word_26a_0 tf lf zs po fa pq fb K n so ww = K (gR_must_3 pq fb (xr_so tf lf zs po pq n so ww)) (gR_must_4 pq fb (xr_so tf lf zs po pq n so ww)) ∧
    kR_word_26a_1 tf lf zs po fa pq fb K n so ww = K (gR_must_3 pq fb (xr_so tf lf zs po pq n so ww)) (gR_must_4 pq fb (xr_so tf lf zs po pq n so ww)) ∧
    kR_word_26a_2 tf lf zs po fa pq fb K n so ww = K (gR_must_3 pq fb (xr_so tf lf zs po pq n so ww)) (gR_must_4 pq fb (xr_so tf lf zs po pq n so ww)) := by
  intro n
  induction n with
  | zero => intro so ww h; exact xl_0 h
  | succ n ih =>
    intro so ww h
    unfold kR_word_26a_0 kR_word_26a_1 kR_word_26a_2 xr_so
    by_cases c : 7 ≤ ww
    · simp only [if_pos c, and_self]
    · have h1 := xl_s1 (b := 7) h (by decide) (by decide) c
      simp only [if_neg c]
      by_cases c2 : so = 0
      · simp only [if_pos c2]
        by_cases c3 : fR_now tf zs pq = -1
        · simp only [if_pos c3]; exact ih _ _ h1
        · simp only [if_neg c3]
          by_cases c4 : fR_may tf lf pq ww po (fR_now tf zs pq) = true
          · simp only [if_pos c4]; exact ih _ _ h1
          · simp only [if_neg c4]; exact ih _ _ h1
      · simp only [if_neg c2]; exact ih _ _ h1
theorem xr_wo {tf lf : Nat → Int32} {zs po fa : Int32} : ∀ (n : Nat) (pq fb : Int32), xr_at zs pq → xr_at zs (kR_word_5a_1 tf lf zs po fa n pq fb) ∧ (kR_word_5a_2 tf lf zs po fa n pq fb = -1 → fb = -1 ∧ ∃ j : Nat, j < 7 ∧ kR_word_5a_0 tf lf zs po fa n pq fb = nI j) := by
  intro n
  induction n with
  | zero => intro pq fb h; exact ⟨xr_00 h, fun q => absurd q (show ¬ (default : Int32) = -1 by decide)⟩
  | succ n ih =>
    intro pq fb h
    unfold kR_word_5a_0 kR_word_5a_1 kR_word_5a_2
    by_cases c1 : fb = -1
    · simp only [if_pos c1]
      by_cases c2 : fR_whole tf lf pq po = -1
      · simp only [if_pos c2]
        have hc : xl_c 0 7 8 0 := ⟨0, rfl, by omega, by omega, by omega⟩
        rw [(xr_so2 (K := fun pq fb => kR_word_5a_0 tf lf zs po fa n pq fb) 8 0 0 hc).1, (xr_so2 (K := fun pq fb => kR_word_5a_1 tf lf zs po fa n pq fb) 8 0 0 hc).2.1, (xr_so2 (K := fun pq fb => kR_word_5a_2 tf lf zs po fa n pq fb) 8 0 0 hc).2.2]
        have hk := ih (gR_must_3 pq fb (xr_so tf lf zs po pq 8 0 0)) (gR_must_4 pq fb (xr_so tf lf zs po pq 8 0 0)) (xr_m3 h (fun q => xr_now (xr_so1 8 0 0 (fun z => absurd rfl z) q)))
        exact ⟨hk.1, fun q => ⟨c1, (hk.2 q).2⟩⟩
      · simp only [if_neg c2]
        refine ⟨h, fun _ => ⟨c1, ?_⟩⟩
        rcases xr_whole (tf := tf) (lf := lf) (po := pq) (fr0 := po) with q | q
        · exact absurd q c2
        · exact q
    · simp only [if_neg c1]
      exact ⟨h, fun q => absurd q c1⟩
theorem xr_p3 {tf lf : Nat → Int32} {zs pq fb : Int32} (hs : zs ≤ 200) (h : xr_at zs pq) : xr_at zs (xr_P3 tf lf zs pq fb) := by
  unfold xr_P3 gR_word_3
  exact (xr_wo 7 _ _ (xr_p2 hs h)).1
theorem xr_p4 {tf lf : Nat → Int32} {zs pq fb : Int32} (hs : zs ≤ 200) (h : xr_at zs pq) : xr_at zs (xr_P4 tf lf zs pq fb) := by
  unfold xr_P4
  exact xr_m3 (xr_p3 hs h) xr_n32
/-! numbers -/
theorem xr_dig {tf : Nat → Int32} {zs pq : Int32} (h : fR_isDigit tf zs pq = true) : ¬ zs ≤ pq ∧ ∃ c : Nat, 48 ≤ c ∧ c ≤ 57 ∧ fR_now tf zs pq = nI c := by
  unfold fR_isDigit at h
  by_cases c1 : fR_now tf zs pq < 48
  · rw [if_pos c1] at h; cases h
  rw [if_neg c1] at h
  by_cases c2 : 57 < fR_now tf zs pq
  · rw [if_pos c2] at h; cases h
  have q1 : ¬ fR_now tf zs pq < 0 := by
    rw [Int32.lt_iff_toInt_lt] at c1 ⊢
    rw [show (48 : Int32).toInt = 48 from by decide] at c1
    rw [show (0 : Int32).toInt = 0 from by decide]
    omega
  obtain ⟨c, hc, e⟩ := nI_of q1
  rw [e] at c1 c2
  rw [show (48 : Int32) = nI 48 from rfl, nI_ltI hc (by decide)] at c1
  rw [show (57 : Int32) = nI 57 from rfl, nI_ltI (by decide) hc] at c2
  refine ⟨xr_now (tf := tf) (fun q => ?_), c, by omega, by omega, e⟩
  rw [e] at q
  exact absurd (q ▸ nI_pos' hc : (0 : Int32) ≤ -1) (by decide)
def xr_va (va dg : Int32) : Prop := ∃ d x : Nat, dg = nI d ∧ 1 ≤ d ∧ d ≤ 4 ∧ va = nI x ∧ x < 10 ^ d
theorem xr_v4 {d x : Nat} (hd : d ≤ 4) (h : x < 10 ^ d) : x ≤ 9999 := by
  have : 10 ^ d ≤ 10 ^ 4 := Nat.pow_le_pow_right (by decide) hd
  omega
theorem xr_nu {tf : Nat → Int32} {zs po fa : Int32} (hpo : ¬ po = -1) : ∀ (n : Nat) (va dg pq : Int32), xr_at zs pq → xr_va va dg → xr_at zs (kR_number_39a_1 tf zs po fa n va dg pq) ∧ (kR_number_39a_2 tf zs po fa n va dg pq = -1 → ∃ x : Nat, 1 ≤ x ∧ x ≤ 9999 ∧ kR_number_39a_0 tf zs po fa n va dg pq = nI x) := by
  intro n
  induction n with
  | zero => intro va dg pq h _; exact ⟨xr_00 h, fun q => absurd q (show ¬ (default : Int32) = -1 by decide)⟩
  | succ n ih =>
    intro va dg pq h hv
    have fin : ∀ y : Int32, (if va = 0 then po else y) = -1 → ∃ x : Nat, 1 ≤ x ∧ x ≤ 9999 ∧ va = nI x := by
      intro y q
      by_cases c : va = 0
      · rw [if_pos c] at q; exact absurd q hpo
      · obtain ⟨d, x, -, -, hd, e, hx⟩ := hv
        refine ⟨x, ?_, xr_v4 hd hx, e⟩
        rcases Nat.eq_zero_or_pos x with z | z
        · rw [z] at e; exact absurd e c
        · exact z
    unfold kR_number_39a_0 kR_number_39a_1 kR_number_39a_2
    by_cases c1 : 4 ≤ dg
    · simp only [if_pos c1, ite_self]
      exact ⟨h, fun q => fin _ q⟩
    · simp only [if_neg c1]
      by_cases c2 : fR_isDigit tf zs pq = true
      · simp only [if_pos c2]
        obtain ⟨g1, c, hc1, hc2, e⟩ := xr_dig c2
        refine ih _ _ _ (xr_up h g1) ?_
        obtain ⟨d, x, rfl, h1, h2, rfl, hx⟩ := hv
        rw [show (4 : Int32) = nI 4 from rfl, nI_leI (by decide) (by omega)] at c1
        refine ⟨d + 1, 10 * x + (c - 48), nI_1 d, by omega, by omega, ?_, ?_⟩
        · rw [e, show (10 : Int32) = nI 10 from rfl, show (48 : Int32) = nI 48 from rfl, pk_mul, nI_add, pk_sub (by omega)]
          congr 1
          omega
        · rw [Nat.pow_succ]
          omega
      · simp only [if_neg c2, ite_self]
        exact ⟨h, fun q => fin _ q⟩
theorem xr_num {tf : Nat → Int32} {zs po fa : Int32} (h : xr_at zs po) : xr_at zs (gR_number_3 tf zs po fa) ∧ (gR_number_4 tf zs po fa = -1 → ∃ x : Nat, 1 ≤ x ∧ x ≤ 9999 ∧ gR_number tf zs po fa = nI x) := by
  unfold gR_number_3 gR_number_4 gR_number
  have hm : xr_at zs (gR_must_3 po fa (xb_bi (fR_isDigit tf zs po))) := xr_m3 h (fun q => (xr_dig (xb_bi_t.mp q)).1)
  by_cases c : gR_must_4 po fa (xb_bi (fR_isDigit tf zs po)) = -1
  · simp only [if_pos c]
    obtain ⟨g1, d, hd1, hd2, e⟩ := xr_dig (xb_bi_t.mp (xr_m4 h c).2)
    have e2 : tf po.toNatClampNeg = nI d := by
      unfold fR_now at e
      rw [if_neg g1] at e
      exact e
    refine xr_nu (xr_nm h) 4 _ _ _ hm ⟨1, d - 48, rfl, by omega, by omega, ?_, by omega⟩
    rw [e2, show (48 : Int32) = nI 48 from rfl, pk_sub (by omega)]
  · simp only [if_neg c]
    exact ⟨hm, fun q => absurd q c⟩
theorem xr_p5 {tf lf : Nat → Int32} {zs pq fb : Int32} (hs : zs ≤ 200) (h : xr_at zs pq) (_ : xr_F4 tf lf zs pq fb = -1) : xr_at zs (xr_P5 tf lf zs pq fb) := by
  unfold xr_P5
  exact (xr_num (xr_p4 hs h)).1
theorem xr_rw {tf lf : Nat → Int32} {zs pq fb : Int32} (hs : zs ≤ 200) (h : xr_at zs pq) (c : xr_F4 tf lf zs pq fb = -1) : (∃ a : Nat, a < 4 ∧ xr_K tf zs pq fb = nI a) ∧ (∃ w : Nat, w < 7 ∧ xr_W tf lf zs pq fb = nI w) := by
  unfold xr_F4 at c
  have h3 := (xr_m4 (xr_p3 hs h) c).1
  unfold xr_F3 gR_word_4 at h3
  have h2 := (xr_wo 7 _ _ (xr_p2 hs h)).2 h3
  have h1 : xr_F2 tf zs pq fb = -1 := h2.1
  unfold xr_F2 at h1
  have h0 := (xr_m4 (xr_p1 hs h) h1).1
  unfold xr_F1 at h0
  have hk := xr_bi (xr_m4 h h0).2
  refine ⟨?_, h2.2⟩
  have hq : ∀ u, fR_kindOf u = -1 ∨ ∃ j : Nat, j < 4 ∧ fR_kindOf u = nI j := by
    intro u
    unfold fR_kindOf
    repeat' split
    · exact Or.inr ⟨0, by decide, rfl⟩
    · exact Or.inr ⟨1, by decide, rfl⟩
    · exact Or.inr ⟨2, by decide, rfl⟩
    · exact Or.inr ⟨3, by decide, rfl⟩
    · exact Or.inl rfl
  rcases hq (fR_now tf zs pq) with q | q
  · exact absurd q hk
  · exact q
theorem xr_i {zs : Int32} {df : Nat → Int32} (h0 : 0 ≤ zs) (h1 : zs ≤ 200) : xr_I 17 zs 0 1 0 (-1) df := by
  refine ⟨⟨0, rfl, by omega, by omega, fun _ => by omega, fun _ j hj => absurd hj (Nat.not_lt_zero j)⟩, ?_⟩
  rw [Int32.le_iff_toInt_le] at h0 h1
  rw [show (0 : Int32).toInt = 0 from by decide] at h0
  rw [show (200 : Int32).toInt = 200 from by decide] at h1
  obtain ⟨Z, hZ, e⟩ := nI_of (x := zs) (by rw [Int32.lt_iff_toInt_lt, show (0 : Int32).toInt = 0 from by decide]; omega)
  refine ⟨0, Z, rfl, e, by omega, ?_⟩
  rw [e, nI_toInt hZ] at h1
  omega
theorem xr_z {zs n9 mr pq fb : Int32} {dq : Nat → Int32} {G : Prop} (h : xr_I 0 zs n9 mr pq fb dq) : G := by
  obtain ⟨⟨i, -, h1, h2, -⟩, -⟩ := h
  omega
theorem xr_ix {n : Nat} {zs n9 mr pq fb : Int32} {dq : Nat → Int32} (h : xr_I n zs n9 mr pq fb dq) (c : ¬ mr = 0) : ∃ i : Nat, n9 = nI i ∧ i ≤ 15 := by
  obtain ⟨⟨i, e, -, -, h3, -⟩, -⟩ := h
  exact ⟨i, e, h3 c⟩
theorem xr_d0 {n : Nat} {zs n9 mr pq fb : Int32} {dq : Nat → Int32} (h : xr_I n zs n9 mr pq fb dq) (c : ¬ mr = 0) : vp_in (3 * n9) 48 := by
  obtain ⟨i, rfl, hi⟩ := xr_ix h c
  rw [show (3 : Int32) = nI 3 from rfl, pk_mul]
  exact vp_in_nI (by omega) (by omega)
theorem xr_d1 {n : Nat} {zs n9 mr pq fb : Int32} {dq : Nat → Int32} (h : xr_I n zs n9 mr pq fb dq) (c : ¬ mr = 0) : vp_in ((3 * n9) + 1) 48 := by
  obtain ⟨i, rfl, hi⟩ := xr_ix h c
  rw [show (3 : Int32) = nI 3 from rfl, pk_mul, nI_1]
  exact vp_in_nI (by omega) (by omega)
theorem xr_d2 {n : Nat} {zs n9 mr pq fb : Int32} {dq : Nat → Int32} (h : xr_I n zs n9 mr pq fb dq) (c : ¬ mr = 0) : vp_in ((3 * n9) + 2) 48 := by
  obtain ⟨i, rfl, hi⟩ := xr_ix h c
  rw [show (3 : Int32) = nI 3 from rfl, pk_mul, show (2 : Int32) = nI 2 from rfl, nI_add]
  exact vp_in_nI (by omega) (by omega)
theorem xr_kk {n n2 : Nat} {zs n9 mr pq fb k8 : Int32} {dq : Nat → Int32} (h : xr_I n zs n9 mr pq fb dq) (h2 : xl_c 0 16 n2 k8) (c : ¬ n9 ≤ k8) : ∃ k : Nat, k8 = nI k ∧ k ≤ 15 ∧ (fb = -1 → xr_row dq k) := by
  obtain ⟨⟨i, rfl, h1, h3, -, hr⟩, -⟩ := h
  obtain ⟨k, rfl, -, h4, h5⟩ := h2
  rw [nI_leI (by omega) (by omega)] at c
  exact ⟨k, rfl, by omega, fun q => hr q k (by omega)⟩
theorem xr_e0 {n n2 : Nat} {zs n9 mr pq fb k8 : Int32} {dq : Nat → Int32} (h : xr_I n zs n9 mr pq fb dq) (h2 : xl_c 0 16 n2 k8) (c : ¬ n9 ≤ k8) : vp_in (3 * k8) 48 := by
  obtain ⟨k, rfl, hk, -⟩ := xr_kk h h2 c
  rw [show (3 : Int32) = nI 3 from rfl, pk_mul]
  exact vp_in_nI (by omega) (by omega)
theorem xr_e1 {n n2 : Nat} {zs n9 mr pq fb k8 : Int32} {dq : Nat → Int32} (h : xr_I n zs n9 mr pq fb dq) (h2 : xl_c 0 16 n2 k8) (c : ¬ n9 ≤ k8) : vp_in ((3 * k8) + 1) 48 := by
  obtain ⟨k, rfl, hk, -⟩ := xr_kk h h2 c
  rw [show (3 : Int32) = nI 3 from rfl, pk_mul, nI_1]
  exact vp_in_nI (by omega) (by omega)
theorem xr_e2 {n n2 : Nat} {zs n9 mr pq fb k8 : Int32} {dq : Nat → Int32} (h : xr_I n zs n9 mr pq fb dq) (h2 : xl_c 0 16 n2 k8) (c : ¬ n9 ≤ k8) : vp_in ((3 * k8) + 2) 48 := by
  obtain ⟨k, rfl, hk, -⟩ := xr_kk h h2 c
  rw [show (3 : Int32) = nI 3 from rfl, pk_mul, show (2 : Int32) = nI 2 from rfl, nI_add]
  exact vp_in_nI (by omega) (by omega)
theorem xr_cl (k : Nat) (hk : k ≤ 15) : (3 * nI k).toNatClampNeg = 3 * k ∧ ((3 * nI k) + 1).toNatClampNeg = 3 * k + 1 ∧ ((3 * nI k) + 2).toNatClampNeg = 3 * k + 2 := by
  rw [show (3 : Int32) = nI 3 from rfl, pk_mul, nI_1, show (2 : Int32) = nI 2 from rfl, nI_add]
  exact ⟨nI_clamp (by omega), nI_clamp (by omega), nI_clamp (by omega)⟩
theorem xr_e3 {n n2 : Nat} {zs n9 mr pq fb k8 : Int32} {dq : Nat → Int32} (h : xr_I n zs n9 mr pq fb dq) (h2 : xl_c 0 16 n2 k8) (c : ¬ n9 ≤ k8) (cf : fb = (-1)) : vp_in ((7 * (dq (3 * k8).toNatClampNeg)) + (dq ((3 * k8) + 1).toNatClampNeg)) 28 := by
  obtain ⟨k, rfl, hk, hr⟩ := xr_kk h h2 c
  obtain ⟨⟨a, ha, ea⟩, ⟨w, hw, ew⟩, -⟩ := hr cf
  obtain ⟨e0, e1, -⟩ := xr_cl k hk
  rw [e0, e1, ea, ew, show (7 : Int32) = nI 7 from rfl, pk_mul, nI_add]
  exact vp_in_nI (by omega) (by omega)
theorem xr_k {n n2 : Nat} {zs n9 mr pq fb k8 : Int32} {dq rq : Nat → Int32} (h : xr_I n zs n9 mr pq fb dq) (h2 : xl_c 0 16 (n2 + 1) k8 ∧ xr_G rq) (c : ¬ n9 ≤ k8) (cf : fb = (-1)) : xl_c 0 16 n2 (k8 + 1) ∧ xr_G (upd rq ((7 * (dq (3 * k8).toNatClampNeg)) + (dq ((3 * k8) + 1).toNatClampNeg)).toNatClampNeg (dq ((3 * k8) + 2).toNatClampNeg)) := by
  obtain ⟨k, rfl, hk, hr⟩ := xr_kk h h2.1 c
  obtain ⟨-, -, ⟨x, h1, h3, ex⟩⟩ := hr cf
  obtain ⟨-, -, e2⟩ := xr_cl k hk
  refine ⟨?_, fun j hj => ?_⟩
  · obtain ⟨k', e, g1, g2, g3⟩ := h2.1
    have : k = k' := (nI_eq (by omega) (by omega)).mp e
    subst this
    exact ⟨k + 1, nI_1 k, by omega, by omega, by omega⟩
  · rw [e2, ex]
    by_cases q : j = ((7 * (dq (3 * nI k).toNatClampNeg)) + (dq ((3 * nI k) + 1).toNatClampNeg)).toNatClampNeg
    · rw [q, pk_us, nI_toInt (by omega)]
      omega
    · rw [pk_un q]
      exact h2.2 j hj
theorem xr_row1 {dq : Nat → Int32} {i j : Nat} {a w x : Int32} (hij : j < i) (hi : i ≤ 15) (h : xr_row dq j) : xr_row (upd (upd (upd dq (3 * nI i).toNatClampNeg a) ((3 * nI i) + 1).toNatClampNeg w) ((3 * nI i) + 2).toNatClampNeg x) j := by
  obtain ⟨e0, e1, e2⟩ := xr_cl i hi
  rw [e0, e1, e2]
  unfold xr_row
  rw [pk_un (by omega), pk_un (by omega), pk_un (by omega), pk_un (by omega), pk_un (by omega), pk_un (by omega), pk_un (by omega), pk_un (by omega), pk_un (by omega)]
  exact h
theorem xr_row2 {dq : Nat → Int32} {i a w x : Nat} (hi : i ≤ 15) (ha : a < 4) (hw : w < 7) (h1 : 1 ≤ x) (h2 : x ≤ 9999) : xr_row (upd (upd (upd dq (3 * nI i).toNatClampNeg (nI a)) ((3 * nI i) + 1).toNatClampNeg (nI w)) ((3 * nI i) + 2).toNatClampNeg (nI x)) i := by
  obtain ⟨e0, e1, e2⟩ := xr_cl i hi
  rw [e0, e1, e2]
  refine ⟨⟨a, ha, ?_⟩, ⟨w, hw, ?_⟩, ⟨x, h1, h2, ?_⟩⟩
  · rw [pk_un (by omega), pk_un (by omega), pk_us]
  · rw [pk_un (by omega), pk_us]
  · rw [pk_us]
theorem xr_M1 {tf : Nat → Int32} {zs pp nn : Int32} (h : ¬ xr_M tf zs pp nn = 0) : ¬ 16 ≤ nn ∧ ¬ zs ≤ pp := by
  unfold xr_M at h
  by_cases c : 16 ≤ nn
  · rw [if_pos c] at h; exact absurd rfl h
  · rw [if_neg c] at h
    refine ⟨c, ?_⟩
    by_cases c2 : fR_now tf zs pp = 59
    · refine xr_now (tf := tf) (fun q => ?_)
      rw [q] at c2
      exact absurd c2 (by decide)
    · rw [if_neg c2] at h; exact absurd rfl h
theorem xr_n {n i : Nat} {tf : Nat → Int32} {zs pp : Int32} (h1 : i + (n + 1) = 17) (h2 : i ≤ 15) : i + 1 + n = 17 ∧ i + 1 ≤ 16 ∧ (¬ xr_M tf zs pp (nI i + 1) = 0 → i + 1 ≤ 15) := by
  refine ⟨by omega, by omega, fun q => ?_⟩
  have q1 := (xr_M1 q).1
  rw [nI_1, show (16 : Int32) = nI 16 from rfl, nI_leI (by decide) (by omega)] at q1
  omega
theorem xr_s4 {n : Nat} {tf lf : Nat → Int32} {zs n9 mr pq fb x : Int32} {dq : Nat → Int32} (h : xr_I (n + 1) zs n9 mr pq fb dq) (hs : zs ≤ 200) (c : ¬ mr = 0) (cf : ¬ xr_F4 tf lf zs pq fb = (-1)) : xr_I n zs (n9 + 1) (xr_M tf zs (xr_P4 tf lf zs pq fb) (n9 + 1)) (xr_P4 tf lf zs pq fb) (xr_F4 tf lf zs pq fb) (upd (upd (upd dq (3 * n9).toNatClampNeg (xr_K tf zs pq fb)) ((3 * n9) + 1).toNatClampNeg (xr_W tf lf zs pq fb)) ((3 * n9) + 2).toNatClampNeg x) := by
  have hp := xr_p h
  obtain ⟨⟨i, rfl, h1, -, h3, -⟩, -⟩ := h
  obtain ⟨g1, g2, g3⟩ := xr_n (tf := tf) (zs := zs) (pp := xr_P4 tf lf zs pq fb) h1 (h3 c)
  exact ⟨⟨i + 1, nI_1 i, g1, g2, g3, fun q => absurd q cf⟩, xr_p4 hs hp⟩
theorem xr_s5 {n : Nat} {tf lf : Nat → Int32} {zs n9 mr pq fb pz : Int32} {dq : Nat → Int32} (h : xr_I (n + 1) zs n9 mr pq fb dq) (hs : zs ≤ 200) (c : ¬ mr = 0) (cb : fb = (-1)) (cf : xr_F4 tf lf zs pq fb = (-1)) (hz : xr_at zs pz) : xr_I n zs (n9 + 1) (xr_M tf zs (xr_P5 tf lf zs pq fb) (n9 + 1)) pz (xr_F5 tf lf zs pq fb) (upd (upd (upd dq (3 * n9).toNatClampNeg (xr_K tf zs pq fb)) ((3 * n9) + 1).toNatClampNeg (xr_W tf lf zs pq fb)) ((3 * n9) + 2).toNatClampNeg (xr_V tf lf zs pq fb)) := by
  have hp := xr_p h
  obtain ⟨⟨i, rfl, h1, -, h3, hr⟩, -⟩ := h
  obtain ⟨g1, g2, g3⟩ := xr_n (tf := tf) (zs := zs) (pp := xr_P5 tf lf zs pq fb) h1 (h3 c)
  refine ⟨⟨i + 1, nI_1 i, g1, g2, g3, fun q j hj => ?_⟩, hz⟩
  by_cases hij : j < i
  · exact xr_row1 hij (h3 c) (hr cb j hij)
  · have : j = i := by omega
    subst this
    obtain ⟨⟨a, ha, ea⟩, ⟨w, hw, ew⟩⟩ := xr_rw hs hp cf
    obtain ⟨x, hx1, hx2, ex⟩ := (xr_num (xr_p4 (tf := tf) (lf := lf) (fb := fb) hs hp)).2 q
    have ex : xr_V tf lf zs pq fb = nI x := ex
    rw [ea, ew, ex]
    exact xr_row2 (h3 c) ha hw hx1 hx2
theorem xr_s5a {n : Nat} {tf lf : Nat → Int32} {zs n9 mr pq fb : Int32} {dq : Nat → Int32} (h : xr_I (n + 1) zs n9 mr pq fb dq) (hs : zs ≤ 200) (c : ¬ mr = 0) (cb : fb = (-1)) (cf : xr_F4 tf lf zs pq fb = (-1)) (_ : xr_M tf zs (xr_P5 tf lf zs pq fb) (n9 + 1) = 0) : xr_I n zs (n9 + 1) (xr_M tf zs (xr_P5 tf lf zs pq fb) (n9 + 1)) (xr_P5 tf lf zs pq fb) (xr_F5 tf lf zs pq fb) (upd (upd (upd dq (3 * n9).toNatClampNeg (xr_K tf zs pq fb)) ((3 * n9) + 1).toNatClampNeg (xr_W tf lf zs pq fb)) ((3 * n9) + 2).toNatClampNeg (xr_V tf lf zs pq fb)) :=
  xr_s5 h hs c cb cf (xr_p5 hs (xr_p h) cf)
theorem xr_s5c {n : Nat} {tf lf : Nat → Int32} {zs n9 mr pq fb : Int32} {dq : Nat → Int32} (h : xr_I (n + 1) zs n9 mr pq fb dq) (hs : zs ≤ 200) (c : ¬ mr = 0) (cb : fb = (-1)) (cf : xr_F4 tf lf zs pq fb = (-1)) (_ : ¬ xr_M tf zs (xr_P5 tf lf zs pq fb) (n9 + 1) = 0) (_ : ¬ xr_F5 tf lf zs pq fb = (-1)) : xr_I n zs (n9 + 1) (xr_M tf zs (xr_P5 tf lf zs pq fb) (n9 + 1)) (xr_P5 tf lf zs pq fb) (xr_F5 tf lf zs pq fb) (upd (upd (upd dq (3 * n9).toNatClampNeg (xr_K tf zs pq fb)) ((3 * n9) + 1).toNatClampNeg (xr_W tf lf zs pq fb)) ((3 * n9) + 2).toNatClampNeg (xr_V tf lf zs pq fb)) :=
  xr_s5 h hs c cb cf (xr_p5 hs (xr_p h) cf)
theorem xr_s5b {n : Nat} {tf lf : Nat → Int32} {zs n9 mr pq fb : Int32} {dq : Nat → Int32} (h : xr_I (n + 1) zs n9 mr pq fb dq) (hs : zs ≤ 200) (c : ¬ mr = 0) (cb : fb = (-1)) (cf : xr_F4 tf lf zs pq fb = (-1)) (cm : ¬ xr_M tf zs (xr_P5 tf lf zs pq fb) (n9 + 1) = 0) (_ : xr_F5 tf lf zs pq fb = (-1)) : xr_I n zs (n9 + 1) (xr_M tf zs (xr_P5 tf lf zs pq fb) (n9 + 1)) ((xr_P5 tf lf zs pq fb) + 1) (xr_F5 tf lf zs pq fb) (upd (upd (upd dq (3 * n9).toNatClampNeg (xr_K tf zs pq fb)) ((3 * n9) + 1).toNatClampNeg (xr_W tf lf zs pq fb)) ((3 * n9) + 2).toNatClampNeg (xr_V tf lf zs pq fb)) :=
  xr_s5 h hs c cb cf (xr_up (xr_p5 hs (xr_p h) cf) (xr_M1 cm).2)
