/-! both words at once -/
theorem xj_t5 (c : Nat → Int32) : ∀ (ws : List (List Int32)) (fu : Nat), fu ≤ 5 → (∀ w ∈ ws, w.length ≤ 5) → (xj_tw c ws fu).2 ≤ 5 := by
  intro ws
  induction ws with
  | nil => intro fu h _; exact h
  | cons w ws ih =>
    intro fu h hw
    have h1 := hw w List.mem_cons_self
    have h2 := xj_pl w c 0
    unfold xj_tw
    split
    · exact h1
    · exact ih _ (by split <;> omega) (fun x hx => hw x (List.mem_cons_of_mem _ hx))
theorem xj_word {uf tf lf : Nat → Int32} {Z b : Nat} (hZ : Z ≤ 200) (ht : ∀ j, j < Z → uf j = tf j) (hL : ∀ j, j < 35 → lf j = xj_L j) (hb : b ≤ 200) :
    (gT_takeWord uf (nI Z) (nI b) = -1 → gR_word_4 tf lf (nI Z) (nI b) (-1) = gT_takeWord_2 uf (nI Z) (nI b) ∧ ¬ gR_word_4 tf lf (nI Z) (nI b) (-1) = -1) ∧ (¬ gT_takeWord uf (nI Z) (nI b) = -1 → gR_word_4 tf lf (nI Z) (nI b) (-1) = -1 ∧ gR_word_3 tf lf (nI Z) (nI b) (-1) = gT_takeWord_2 uf (nI Z) (nI b)) := by
  have h1 := xj_wd (tf := tf) (lf := lf) (zs := nI Z) (fa := -1) hb hL 6 [] (by decide) (by decide) (fun k hk => absurd hk (Nat.not_lt_zero k))
  have h2 := xj_tk hZ ht hb xs_byt 8 0 0 rfl (by decide) (by decide) (by decide)
  rw [xj_eq] at h1
  have h5 := xj_t5 (xj_c tf (nI Z) b) xs_byt 0 (by decide) (by decide)
  generalize xj_tw (xj_c tf (nI Z) b) xs_byt 0 = r at h1 h2 h5
  have a1 : gR_word_3 tf lf (nI Z) (nI b) (-1) = nI (b + r.2) := h1.1
  have a2 : gR_word_4 tf lf (nI Z) (nI b) (-1) = (if r.1 = true then -1 else nI (b + r.2)) := h1.2
  have a3 : gT_takeWord uf (nI Z) (nI b) = -1 ↔ r.1 = false := h2.1
  have a4 : gT_takeWord_2 uf (nI Z) (nI b) = nI (b + r.2) := h2.2
  refine ⟨fun q => ?_, fun q => ?_⟩
  · rw [a2, a4, if_neg (by rw [a3.mp q]; decide)]
    refine ⟨rfl, fun z => ?_⟩
    exact xj_nm (by omega) z
  · have : r.1 = true := by
      rcases Bool.eq_false_or_eq_true r.1 with z | z
      · exact z
      · exact absurd (a3.mpr z) q
    rw [a1, a2, a4, if_pos this]
    exact ⟨rfl, rfl⟩
/-! numbers -/
theorem xj_dig {uf tf : Nat → Int32} {Z a : Nat} (hZ : Z ≤ 200) (ht : ∀ j, j < Z → uf j = tf j) (ha : a < 2 ^ 31) : fT_isDigit (fT_look uf (nI Z) (nI a)) = fR_isDigit tf (nI Z) (nI a) := by
  unfold fT_isDigit fR_isDigit
  rw [xj_look hZ ht ha]
theorem xj_ring (v x : Int32) : v * 10 + (x - 48) = 10 * v + x - 48 := by
  rw [Int32.mul_comm, Int32.sub_eq_add_neg, Int32.sub_eq_add_neg, Int32.add_assoc]
theorem xj_nu {uf tf : Nat → Int32} {Z b : Nat} {fa : Int32} (hZ : Z ≤ 200) (ht : ∀ j, j < Z → uf j = tf j) (hb : b ≤ 200) (hm : gR_must_4 (nI b) fa (xb_bi (fR_isDigit tf (nI Z) (nI b))) = -1) : ∀ (n k : Nat) (va : Int32), k + n = 5 → k ≤ 4 →
    kT_takeNumber_4a_0 uf (nI Z) (nI b) n (nI k) va = (if kR_number_39a_0 tf (nI Z) (nI b) fa n va (nI k) (nI (b + k)) = 0 then -1 else kR_number_39a_0 tf (nI Z) (nI b) fa n va (nI k) (nI (b + k))) ∧
    kR_number_39a_2 tf (nI Z) (nI b) fa n va (nI k) (nI (b + k)) = (if kR_number_39a_0 tf (nI Z) (nI b) fa n va (nI k) (nI (b + k)) = 0 then nI b else -1) ∧
    kT_takeNumber_4a_1 uf (nI Z) (nI b) n (nI k) va = (if kR_number_39a_0 tf (nI Z) (nI b) fa n va (nI k) (nI (b + k)) = 0 then nI b else kR_number_39a_1 tf (nI Z) (nI b) fa n va (nI k) (nI (b + k))) := by
  intro n
  induction n with
  | zero => intro k va h1 h2; omega
  | succ n ih =>
    intro k va h1 h2
    have q4 : (4 : Int32) ≤ nI k ↔ 4 ≤ k := nI_leI (a := 4) (by decide) (by omega)
    unfold kT_takeNumber_4a_0 kT_takeNumber_4a_1 kR_number_39a_0 kR_number_39a_1 kR_number_39a_2
    by_cases c : 4 ≤ k
    · simp only [if_pos (q4.mpr c), ite_self, hm, nI_add]
      exact ⟨trivial, trivial, trivial⟩
    · simp only [if_neg (fun q => c (q4.mp q) : ¬ (4 : Int32) ≤ nI k), nI_add, xj_dig hZ ht (show b + k < 2 ^ 31 by omega)]
      by_cases c2 : fR_isDigit tf (nI Z) (nI (b + k)) = true
      · simp only [if_pos c2, xj_look hZ ht (show b + k < 2 ^ 31 by omega), xj_ring, nI_1]
        exact ih (k + 1) _ (by omega) (by omega)
      · simp only [if_neg c2, ite_self, hm]
        exact ⟨trivial, trivial, trivial⟩
theorem xj_num {uf tf : Nat → Int32} {Z b : Nat} (hZ : Z ≤ 200) (ht : ∀ j, j < Z → uf j = tf j) (hb : b ≤ Z) :
    (gT_takeNumber uf (nI Z) (nI b) = -1 → gR_number_4 tf (nI Z) (nI b) (-1) = gT_takeNumber_2 uf (nI Z) (nI b) ∧ ¬ gR_number_4 tf (nI Z) (nI b) (-1) = -1) ∧ (¬ gT_takeNumber uf (nI Z) (nI b) = -1 → gR_number_4 tf (nI Z) (nI b) (-1) = -1 ∧ gR_number_3 tf (nI Z) (nI b) (-1) = gT_takeNumber_2 uf (nI Z) (nI b)) := by
  have hat : xr_at (nI Z) (nI b) := ⟨b, Z, rfl, rfl, hb, hZ⟩
  have hx := (xr_num (tf := tf) (fa := -1) hat).2
  unfold gR_number at hx
  unfold gT_takeNumber gT_takeNumber_2
  have z0 : nI b + 0 = nI b := by rw [show (0 : Int32) = nI 0 from rfl, nI_add]; rfl
  unfold kT_takeNumber_4a_0 kT_takeNumber_4a_1
  simp only [show ¬ (4 : Int32) ≤ 0 from by decide, if_false, z0, xj_dig hZ ht (show b < 2 ^ 31 by omega)]
  by_cases c : fR_isDigit tf (nI Z) (nI b) = true
  · have hm : ¬ xb_bi (fR_isDigit tf (nI Z) (nI b)) = 0 := xb_bi_t.mpr c
    obtain ⟨m3, m4⟩ := xj_m2 (a := b) hm
    have e : tf (nI b).toNatClampNeg = fR_now tf (nI Z) (nI b) := by
      obtain ⟨-, x, h1, h2, e⟩ := xr_dig c
      rw [nI_clamp (by omega)]
      exact (xj_now (by omega) (by rw [e]; exact xj_nm (by omega))).symm
    have hk := xj_nu (fa := -1) hZ ht (show b ≤ 200 by omega) m4 4 1 (tf (nI b).toNatClampNeg - 48) (by omega) (by omega)
    have ev : (0 : Int32) * 10 + (fT_look uf (nI Z) (nI b) - 48) = tf (nI b).toNatClampNeg - 48 := by
      rw [xj_look hZ ht (by omega), e, Int32.zero_mul, Int32.zero_add]
    simp only [if_pos c, show (0 : Int32) + 1 = 1 from rfl, ev]
    rw [if_pos m4] at hx
    unfold gR_number_3 gR_number_4
    unfold gR_number_4 at hx
    rw [if_pos m4] at hx
    simp only [m4, if_true]
    rw [m3] at hx ⊢
    obtain ⟨h1, h2, h3⟩ := hk
    rw [show (nI 1 : Int32) = 1 from rfl] at h1 h2 h3
    rw [h1, h2, h3]
    rw [h2] at hx
    by_cases cz : kR_number_39a_0 tf (nI Z) (nI b) (-1) 4 (tf (nI b).toNatClampNeg - 48) 1 (nI (b + 1)) = 0
    · simp only [if_pos cz]
      exact ⟨fun _ => ⟨trivial, xj_nm (by omega)⟩, fun q => absurd trivial q⟩
    · simp only [if_neg cz] at hx ⊢
      obtain ⟨x, hx1, hx2, ex⟩ := hx trivial
      rw [ex]
      exact ⟨fun q => absurd q (xj_nm (by omega)), fun _ => ⟨trivial, trivial⟩⟩
  · have hm : xb_bi (fR_isDigit tf (nI Z) (nI b)) = 0 := by
      rcases Decidable.em (xb_bi (fR_isDigit tf (nI Z) (nI b)) = 0) with q | q
      · exact q
      · exact absurd (xb_bi_t.mp q) c
    obtain ⟨m3, m4⟩ := xj_m1 (a := b) (by omega)
    unfold gR_number_3 gR_number_4
    rw [hm, m3, m4]
    simp only [if_neg c, if_true, if_neg (xj_nm (show b < 2 ^ 31 by omega))]
    exact ⟨fun _ => ⟨trivial, xj_nm (by omega)⟩, fun q => absurd trivial q⟩
/-! one statement of a text -/
theorem xj_kind (u : Int32) : fT_kindOf u = fR_kindOf u := by
  unfold fT_kindOf fR_kindOf
  by_cases c1 : u = 98
  · subst c1; rfl
  by_cases c2 : u = 100
  · subst c2; rfl
  by_cases c3 : u = 110
  · subst c3; rfl
  by_cases c4 : u = 115
  · subst c4; rfl
  rw [if_neg c1, if_neg c2, if_neg c3, if_neg c4, if_neg c3, if_neg c4, if_neg c1, if_neg c2]
theorem xj_bf {p : Prop} [Decidable p] (h : ¬ p) : xb_bi (decide p) = 0 := by
  rw [decide_eq_false h]; rfl
theorem xj_bt {p : Prop} [Decidable p] (h : p) : ¬ xb_bi (decide p) = 0 := xb_bi_t.mpr (decide_eq_true h)
theorem xj_wf {tf lf : Nat → Int32} {zs po fa : Int32} (h : ¬ fa = -1) : gR_word_4 tf lf zs po fa = fa := by
  unfold gR_word_4 kR_word_5a_2
  simp only [if_neg h]
theorem xj_F2 {tf : Nat → Int32} {zs pq fb : Int32} (h : ¬ xr_F1 tf zs pq fb = -1) : xr_F2 tf zs pq fb = xr_F1 tf zs pq fb := by
  unfold xr_F2
  exact (xj_m5 h).2
theorem xj_F3 {tf lf : Nat → Int32} {zs pq fb : Int32} (h : ¬ xr_F2 tf zs pq fb = -1) : xr_F3 tf lf zs pq fb = xr_F2 tf zs pq fb := by
  unfold xr_F3
  exact xj_wf h
theorem xj_F4 {tf lf : Nat → Int32} {zs pq fb : Int32} (h : ¬ xr_F3 tf lf zs pq fb = -1) : xr_F4 tf lf zs pq fb = xr_F3 tf lf zs pq fb := by
  unfold xr_F4
  exact (xj_m5 h).2
def xj_S (uf tf lf : Nat → Int32) (len pq : Int32) (rq : Nat → Int32) : Prop :=
  (gN_readStatement uf len pq rq = true ∧ xr_F4 tf lf len pq (-1) = -1 ∧ xr_F5 tf lf len pq (-1) = -1 ∧ xr_P5 tf lf len pq (-1) = gN_readStatement_2 uf len pq rq) ∨
  (gN_readStatement uf len pq rq = false ∧ xr_F4 tf lf len pq (-1) = -1 ∧ ¬ xr_F5 tf lf len pq (-1) = -1 ∧ xr_F5 tf lf len pq (-1) = gN_readStatement_2 uf len pq rq) ∨
  (gN_readStatement uf len pq rq = false ∧ ¬ xr_F4 tf lf len pq (-1) = -1 ∧ xr_F4 tf lf len pq (-1) = gN_readStatement_2 uf len pq rq)
theorem xj_st {uf tf lf : Nat → Int32} {Z b : Nat} {rq : Nat → Int32} (hZ : Z ≤ 200) (ht : ∀ j, j < Z → uf j = tf j) (hL : ∀ j, j < 35 → lf j = xj_L j) (hb : b ≤ Z) : xj_S uf tf lf (nI Z) (nI b) rq := by
  have hs : nI Z ≤ 200 := nI_le (b := 200) hZ (by decide)
  have hat : xr_at (nI Z) (nI b) := ⟨b, Z, rfl, rfl, hb, hZ⟩
  have a1 := xr_p1 (tf := tf) (fb := -1) hs hat
  have a2 := xr_p2 (tf := tf) (fb := -1) hs hat
  have a3 := xr_p3 (tf := tf) (lf := lf) (fb := -1) hs hat
  have a4 := xr_p4 (tf := tf) (lf := lf) (fb := -1) hs hat
  unfold xj_S gN_readStatement gN_readStatement_2
  have k1 : gT_takeKind uf (nI Z) (nI b) = xr_K tf (nI Z) (nI b) (-1) := by
    unfold gT_takeKind xr_K
    rw [ite_self, xj_look hZ ht (by omega), xj_kind]
  have k2 : gT_takeKind_2 uf (nI Z) (nI b) = if xr_K tf (nI Z) (nI b) (-1) = -1 then nI b else nI (b + 1) := by
    unfold gT_takeKind_2 xr_K
    rw [xj_look hZ ht (by omega), xj_kind, nI_1]
  rw [k1, k2]
  by_cases c1 : xr_K tf (nI Z) (nI b) (-1) = -1
  · have f1 : xr_F1 tf (nI Z) (nI b) (-1) = nI b := by
      unfold xr_F1
      rw [xj_bf (fun q => q c1)]
      exact (xj_m1 (by omega)).2
    have n1 : ¬ xr_F1 tf (nI Z) (nI b) (-1) = -1 := by rw [f1]; exact xj_nm (by omega)
    have f2 := xj_F2 n1
    have n2 : ¬ xr_F2 tf (nI Z) (nI b) (-1) = -1 := by rw [f2]; exact n1
    have f3 := xj_F3 (lf := lf) n2
    have n3 : ¬ xr_F3 tf lf (nI Z) (nI b) (-1) = -1 := by rw [f3]; exact n2
    have f4 := xj_F4 n3
    refine Or.inr (Or.inr ⟨?_, by rw [f4]; exact n3, ?_⟩)
    · rw [if_pos c1]
    · rw [if_pos c1, if_pos c1, f4, f3, f2, f1]
  have f1 : xr_F1 tf (nI Z) (nI b) (-1) = -1 := by
    unfold xr_F1
    exact (xj_m2 (xj_bt c1)).2
  have p1 : xr_P1 tf (nI Z) (nI b) (-1) = nI (b + 1) := by
    unfold xr_P1
    exact (xj_m2 (xj_bt c1)).1
  simp only [if_neg c1]
  obtain ⟨b1, Z1, e1, -, -, -⟩ := a1
  have t1 : gT_take uf (nI Z) (nI (b + 1)) 32 = decide (fR_now tf (nI Z) (nI (b + 1)) = 32) := by
    unfold gT_take
    rw [xj_look hZ ht (by omega)]
    split
    · rename_i q; rw [decide_eq_true q]
    · rename_i q; rw [decide_eq_false q]
  have t2 : gT_take_2 uf (nI Z) (nI (b + 1)) 32 = if fR_now tf (nI Z) (nI (b + 1)) = 32 then nI (b + 2) else nI (b + 1) := by
    unfold gT_take_2
    rw [xj_look hZ ht (by omega), nI_1]
  rw [t1, t2]
  by_cases c2 : ¬ fR_now tf (nI Z) (nI (b + 1)) = 32
  · have f2 : xr_F2 tf (nI Z) (nI b) (-1) = nI (b + 1) := by
      unfold xr_F2
      rw [p1, f1, xj_bf c2]
      exact (xj_m1 (by omega)).2
    have n2 : ¬ xr_F2 tf (nI Z) (nI b) (-1) = -1 := by rw [f2]; exact xj_nm (by omega)
    have f3 := xj_F3 (lf := lf) n2
    have n3 : ¬ xr_F3 tf lf (nI Z) (nI b) (-1) = -1 := by rw [f3]; exact n2
    have f4 := xj_F4 n3
    have d2 : ¬ decide (fR_now tf (nI Z) (nI (b + 1)) = 32) = true := by rw [decide_eq_false c2]; decide
    refine Or.inr (Or.inr ⟨?_, by rw [f4]; exact n3, ?_⟩)
    · rw [if_neg d2]
    · rw [if_neg d2, if_neg c2, f4, f3, f2]
  have c2 : fR_now tf (nI Z) (nI (b + 1)) = 32 := Decidable.not_not.mp c2
  have f2 : xr_F2 tf (nI Z) (nI b) (-1) = -1 := by
    unfold xr_F2
    rw [p1, f1]
    exact (xj_m2 (xj_bt c2)).2
  have p2 : xr_P2 tf (nI Z) (nI b) (-1) = nI (b + 2) := by
    unfold xr_P2
    rw [p1, f1]
    exact (xj_m2 (xj_bt c2)).1
  have d2 : decide (fR_now tf (nI Z) (nI (b + 1)) = 32) = true := decide_eq_true c2
  simp only [if_pos d2, if_pos c2]
  have hb2 : b + 2 ≤ Z := by
    obtain ⟨y, Z2, e2, ez, h1, h2⟩ := a2
    rw [p2] at e2
    have : Z = Z2 := (nI_eq (by omega) (by omega)).mp ez
    have : b + 2 = y := (nI_eq (by omega) (by omega)).mp e2
    omega
  have hw := xj_word (lf := lf) hZ ht hL (show b + 2 ≤ 200 by omega)
  have e3 : xr_F3 tf lf (nI Z) (nI b) (-1) = gR_word_4 tf lf (nI Z) (nI (b + 2)) (-1) := by unfold xr_F3; rw [p2, f2]
  have g3 : xr_P3 tf lf (nI Z) (nI b) (-1) = gR_word_3 tf lf (nI Z) (nI (b + 2)) (-1) := by unfold xr_P3; rw [p2, f2]
  by_cases c3 : gT_takeWord uf (nI Z) (nI (b + 2)) = -1
  · have hw1 := hw.1 c3
    have n3 : ¬ xr_F3 tf lf (nI Z) (nI b) (-1) = -1 := by rw [e3]; exact hw1.2
    have f4 := xj_F4 n3
    refine Or.inr (Or.inr ⟨?_, by rw [f4]; exact n3, ?_⟩)
    · rw [if_pos c3]
    · rw [if_pos c3, f4, e3, hw1.1]
  have hw2 := hw.2 c3
  rw [hw2.1] at e3
  rw [hw2.2] at g3
  rw [g3] at a3
  simp only [if_neg c3]
  obtain ⟨y, Z3, e4, ez3, hy, hZ3⟩ := a3
  have hZZ : Z = Z3 := (nI_eq (by omega) (by omega)).mp ez3
  subst hZZ
  rw [e4] at g3 ⊢
  have t3 : gT_take uf (nI Z) (nI y) 32 = decide (fR_now tf (nI Z) (nI y) = 32) := by
    unfold gT_take
    rw [xj_look hZ ht (by omega)]
    split
    · rename_i q; rw [decide_eq_true q]
    · rename_i q; rw [decide_eq_false q]
  have t4 : gT_take_2 uf (nI Z) (nI y) 32 = if fR_now tf (nI Z) (nI y) = 32 then nI (y + 1) else nI y := by
    unfold gT_take_2
    rw [xj_look hZ ht (by omega), nI_1]
  rw [t3, t4]
  by_cases c4 : ¬ fR_now tf (nI Z) (nI y) = 32
  · have f4 : xr_F4 tf lf (nI Z) (nI b) (-1) = nI y := by
      unfold xr_F4
      rw [g3, e3, xj_bf c4]
      exact (xj_m1 (by omega)).2
    have d4 : ¬ decide (fR_now tf (nI Z) (nI y) = 32) = true := by rw [decide_eq_false c4]; decide
    refine Or.inr (Or.inr ⟨?_, by rw [f4]; exact xj_nm (by omega), ?_⟩)
    · rw [if_neg d4]
    · rw [if_neg d4, if_neg c4, f4]
  have c4 : fR_now tf (nI Z) (nI y) = 32 := Decidable.not_not.mp c4
  have f4 : xr_F4 tf lf (nI Z) (nI b) (-1) = -1 := by
    unfold xr_F4
    rw [g3, e3]
    exact (xj_m2 (xj_bt c4)).2
  have p4 : xr_P4 tf lf (nI Z) (nI b) (-1) = nI (y + 1) := by
    unfold xr_P4
    rw [g3, e3]
    exact (xj_m2 (xj_bt c4)).1
  have d4 : decide (fR_now tf (nI Z) (nI y) = 32) = true := decide_eq_true c4
  simp only [if_pos d4, if_pos c4]
  have hy1 : y + 1 ≤ Z := by
    obtain ⟨y2, Z2, e2, ez, h1, h2⟩ := a4
    rw [p4] at e2
    have : Z = Z2 := (nI_eq (by omega) (by omega)).mp ez
    have : y + 1 = y2 := (nI_eq (by omega) (by omega)).mp e2
    omega
  have hn := xj_num hZ ht hy1
  have e5 : xr_F5 tf lf (nI Z) (nI b) (-1) = gR_number_4 tf (nI Z) (nI (y + 1)) (-1) := by unfold xr_F5; rw [p4, f4]
  have g5 : xr_P5 tf lf (nI Z) (nI b) (-1) = gR_number_3 tf (nI Z) (nI (y + 1)) (-1) := by unfold xr_P5; rw [p4, f4]
  rw [e5, g5]
  by_cases c5 : gT_takeNumber uf (nI Z) (nI (y + 1)) = -1
  · obtain ⟨h1, h2⟩ := hn.1 c5
    refine Or.inr (Or.inl ⟨?_, f4, h2, ?_⟩)
    · rw [if_pos c5]
    · rw [if_pos c5, h1]
  · obtain ⟨h1, h2⟩ := hn.2 c5
    refine Or.inl ⟨?_, f4, h1, ?_⟩
    · rw [if_neg c5]
    · rw [if_neg c5, h2]
/-! the statements of a text, one after the other -/
def xj_J (uf : Nat → Int32) (nx0 : Int32) (rf0 : Nat → Int32) (ans zs n9 mr pq fb : Int32) : Prop :=
  (fb = -1 → ¬ mr = 0 → ∃ (i n : Nat) (rq : Nat → Int32), n9 = nI i ∧ i + n = 15 ∧ ans = kN_readStatements_9a_0 uf zs nx0 rf0 (n + 2) (nI (i + 1)) pq rq) ∧
  (¬ fb = -1 → ans = (-1) - fb) ∧ (fb = -1 → mr = 0 → ans = if pq < zs then (-1) - pq else n9)
theorem xj_i {uf rf0 : Nat → Int32} {nx0 ans zs : Int32} (h : ans = kN_readStatements_9a_0 uf zs nx0 rf0 17 1 0 rf0) : xj_J uf nx0 rf0 ans zs 0 1 0 (-1) :=
  ⟨fun _ _ => ⟨0, 15, rf0, rfl, rfl, h⟩, fun q => absurd rfl q, fun _ q => absurd q (by decide)⟩
theorem xj_e1 {uf rf0 : Nat → Int32} {nx0 ans zs n9 mr pq fb : Int32} (h : xj_J uf nx0 rf0 ans zs n9 mr pq fb) (hf : ¬ fb = -1) : (-1) - fb = ans := (h.2.1 hf).symm
theorem xj_e2 {uf rf0 : Nat → Int32} {nx0 ans zs n9 mr pq fb : Int32} (h : xj_J uf nx0 rf0 ans zs n9 mr pq fb) (hf : fb = -1) (hm : mr = 0) (hz : zs ≤ pq) : n9 = ans := by
  rw [h.2.2 hf hm, if_neg (Int32.not_lt.mpr hz)]
theorem xj_e3 {uf rf0 : Nat → Int32} {nx0 ans zs n9 mr pq fb : Int32} (h : xj_J uf nx0 rf0 ans zs n9 mr pq fb) (hf : fb = -1) (hm : mr = 0) (hz : ¬ zs ≤ pq) : (-1) - pq = ans := by
  rw [h.2.2 hf hm, if_pos (Int32.not_le.mp hz)]
theorem xj_t {uf tf : Nat → Int32} {Z : Nat} (hZ : Z ≤ 200) (hT : ∀ j, j < (nI Z).toNatClampNeg → uf j = tf j) : ∀ j, j < Z → uf j = tf j := by
  rw [nI_clamp (by omega)] at hT
  exact hT
theorem xj_go {uf tf lf rf0 : Nat → Int32} {nx0 ans zs n9 mr pq fb : Int32} (hT : ∀ j, j < zs.toNatClampNeg → uf j = tf j) (hL : ∀ j, j < 35 → lf j = xj_L j) (ha : xr_at zs pq) (h : xj_J uf nx0 rf0 ans zs n9 mr pq fb) (hf : fb = -1) (hm : ¬ mr = 0) :
    (¬ xr_F4 tf lf zs pq fb = -1 → ans = (-1) - xr_F4 tf lf zs pq fb) ∧ (xr_F4 tf lf zs pq fb = -1 → ∀ pz, (xr_M tf zs (xr_P5 tf lf zs pq fb) (n9 + 1) = 0 → pz = xr_P5 tf lf zs pq fb) → (¬ xr_M tf zs (xr_P5 tf lf zs pq fb) (n9 + 1) = 0 → xr_F5 tf lf zs pq fb = -1 → pz = xr_P5 tf lf zs pq fb + 1) → xj_J uf nx0 rf0 ans zs (n9 + 1) (xr_M tf zs (xr_P5 tf lf zs pq fb) (n9 + 1)) pz (xr_F5 tf lf zs pq fb)) := by
  obtain ⟨i, n, rq, rfl, hi, e⟩ := h.1 hf hm
  have ha0 := ha
  obtain ⟨b, Z, rfl, rfl, hb, hZ⟩ := ha0
  subst hf
  have ht := xj_t hZ hT
  have hs : nI Z ≤ 200 := nI_le (b := 200) hZ (by decide)
  have q16 : (16 : Int32) < nI (i + 1) ↔ 16 < i + 1 := nI_ltI (a := 16) (by decide) (by omega)
  have r16 : nI (i + 1) = 16 ↔ i + 1 = 16 := nI_eq (b := 16) (by omega) (by decide)
  have l16 : (16 : Int32) ≤ nI (i + 1) ↔ 16 ≤ i + 1 := nI_leI (a := 16) (by decide) (by omega)
  unfold kN_readStatements_9a_0 at e
  rw [if_neg (fun q => absurd (q16.mp q) (by omega))] at e
  rcases xj_st (rq := rq) hZ ht hL hb with ⟨s1, f4, f5, p5⟩ | ⟨s1, f4, n5, f5⟩ | ⟨s1, n4, f4⟩
  · refine ⟨fun q => absurd f4 q, fun _ pz hz0 hz1 => ?_⟩
    rw [if_pos s1, ← p5] at e
    obtain ⟨y, Z2, ey, ez, hy, hZ2⟩ := xr_p5 (tf := tf) (lf := lf) (fb := -1) hs ha f4
    have : Z = Z2 := (nI_eq (by omega) (by omega)).mp ez
    subst this
    rw [ey] at e hz0 hz1 ⊢
    rw [f5] at hz1 ⊢
    have lyz : nI y < nI Z ↔ y < Z := nI_ltI (by omega) (by omega)
    have lzy : nI Z ≤ nI y ↔ Z ≤ y := nI_leI (by omega) (by omega)
    have lk : fT_look uf (nI Z) (nI y) = fR_now tf (nI Z) (nI y) := xj_look hZ ht (by omega)
    rw [nI_1] at hz0 hz1 ⊢
    unfold fT_ended gT_take gT_take_2 fT_fault at e
    rw [lk] at e
    refine ⟨fun _ hM => ?_, fun q => absurd rfl q, fun _ hM => ?_⟩
    · have hM2 := xr_M1 hM
      have hi2 : ¬ 16 ≤ i + 1 := fun q => hM2.1 (l16.mpr q)
      have hy2 : ¬ Z ≤ y := fun q => hM2.2 (lzy.mpr q)
      have h59 : fR_now tf (nI Z) (nI y) = 59 := by
        unfold xr_M at hM
        rw [if_neg hM2.1] at hM
        rcases Decidable.em (fR_now tf (nI Z) (nI y) = 59) with q | q
        · exact q
        · rw [if_neg q] at hM; exact absurd rfl hM
      rw [if_pos (lyz.mpr (by omega)), if_neg (by decide), if_neg (fun q => hi2 (by have := r16.mp q; omega)), if_pos h59, if_pos rfl, if_pos h59, nI_1, nI_1] at e
      cases n with
      | zero => omega
      | succ n =>
        rw [hz1 hM rfl, nI_1]
        exact ⟨i + 1, n, _, rfl, by omega, e⟩
    · rw [hz0 hM]
      by_cases cy : y < Z
      · rw [if_pos (lyz.mpr cy)]
        rw [if_pos (lyz.mpr cy), if_neg (by decide)] at e
        by_cases c16 : i + 1 = 16
        · rw [if_pos (r16.mpr c16)] at e
          exact e
        · rw [if_neg (fun q => c16 (r16.mp q))] at e
          have h59 : ¬ fR_now tf (nI Z) (nI y) = 59 := by
            intro q
            unfold xr_M at hM
            rw [if_neg (fun q2 => absurd (l16.mp q2) (by omega)), if_pos q] at hM
            exact absurd hM (by decide)
          rw [if_neg h59, if_neg (by decide), if_neg h59] at e
          exact e
      · rw [if_neg (fun q => cy (lyz.mp q))]
        rw [if_neg (fun q => cy (lyz.mp q)), if_pos rfl] at e
        exact e
  · refine ⟨fun q => absurd f4 q, fun _ pz _ _ => ?_⟩
    rw [if_neg (by rw [s1]; decide), ← f5] at e
    exact ⟨fun q => absurd q n5, fun _ => e, fun q => absurd q n5⟩
  · refine ⟨fun _ => ?_, fun q => absurd q n4⟩
    rw [if_neg (by rw [s1]; decide), ← f4] at e
    exact e
theorem xj_s4 {uf tf lf rf0 : Nat → Int32} {nx0 ans zs n9 mr pq fb mz pz : Int32} (hT : ∀ j, j < zs.toNatClampNeg → uf j = tf j) (hL : ∀ j, j < 35 → lf j = xj_L j) (ha : xr_at zs pq) (h : xj_J uf nx0 rf0 ans zs n9 mr pq fb) (hm : ¬ mr = 0) (hf : fb = -1) (c : ¬ xr_F4 tf lf zs pq fb = -1) : xj_J uf nx0 rf0 ans zs (n9 + 1) mz pz (xr_F4 tf lf zs pq fb) :=
  ⟨fun q => absurd q c, fun _ => (xj_go hT hL ha h hf hm).1 c, fun q => absurd q c⟩
theorem xj_s5a {uf tf lf rf0 : Nat → Int32} {nx0 ans zs n9 mr pq fb : Int32} (hT : ∀ j, j < zs.toNatClampNeg → uf j = tf j) (hL : ∀ j, j < 35 → lf j = xj_L j) (ha : xr_at zs pq) (h : xj_J uf nx0 rf0 ans zs n9 mr pq fb) (hm : ¬ mr = 0) (hf : fb = -1) (c : xr_F4 tf lf zs pq fb = -1) (cm : xr_M tf zs (xr_P5 tf lf zs pq fb) (n9 + 1) = 0) : xj_J uf nx0 rf0 ans zs (n9 + 1) (xr_M tf zs (xr_P5 tf lf zs pq fb) (n9 + 1)) (xr_P5 tf lf zs pq fb) (xr_F5 tf lf zs pq fb) :=
  (xj_go hT hL ha h hf hm).2 c _ (fun _ => rfl) (fun q => absurd cm q)
theorem xj_s5c {uf tf lf rf0 : Nat → Int32} {nx0 ans zs n9 mr pq fb : Int32} (hT : ∀ j, j < zs.toNatClampNeg → uf j = tf j) (hL : ∀ j, j < 35 → lf j = xj_L j) (ha : xr_at zs pq) (h : xj_J uf nx0 rf0 ans zs n9 mr pq fb) (hm : ¬ mr = 0) (hf : fb = -1) (c : xr_F4 tf lf zs pq fb = -1) (_ : ¬ xr_M tf zs (xr_P5 tf lf zs pq fb) (n9 + 1) = 0) (c5 : ¬ xr_F5 tf lf zs pq fb = -1) : xj_J uf nx0 rf0 ans zs (n9 + 1) (xr_M tf zs (xr_P5 tf lf zs pq fb) (n9 + 1)) (xr_P5 tf lf zs pq fb) (xr_F5 tf lf zs pq fb) :=
  (xj_go hT hL ha h hf hm).2 c _ (fun _ => rfl) (fun _ q => absurd q c5)
theorem xj_s5b {uf tf lf rf0 : Nat → Int32} {nx0 ans zs n9 mr pq fb : Int32} (hT : ∀ j, j < zs.toNatClampNeg → uf j = tf j) (hL : ∀ j, j < 35 → lf j = xj_L j) (ha : xr_at zs pq) (h : xj_J uf nx0 rf0 ans zs n9 mr pq fb) (hm : ¬ mr = 0) (hf : fb = -1) (c : xr_F4 tf lf zs pq fb = -1) (cm : ¬ xr_M tf zs (xr_P5 tf lf zs pq fb) (n9 + 1) = 0) (_ : xr_F5 tf lf zs pq fb = -1) : xj_J uf nx0 rf0 ans zs (n9 + 1) (xr_M tf zs (xr_P5 tf lf zs pq fb) (n9 + 1)) ((xr_P5 tf lf zs pq fb) + 1) (xr_F5 tf lf zs pq fb) :=
  (xj_go hT hL ha h hf hm).2 c _ (fun q => absurd q cm) (fun _ _ => rfl)
