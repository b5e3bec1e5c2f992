/-! p3: both readings of a text come to the same -/
def xj_L (j : Nat) : Int32 := [115, 105, 122, 101, 0, 102, 111, 114, 99, 101, 101, 100, 103, 101, 0, 101, 110, 100, 0, 0, 115, 105, 100, 101, 0, 114, 111, 119, 0, 0, 116, 104, 105, 110, 0].getD j 0
theorem xj_lf : ∀ j, j < 35 → xr_lf j = xj_L j := by decide
def xj_e (L f : Nat → Int32) (w : Nat) : Nat → Nat → Bool
  | 0, _ => true
  | m + 1, k => decide (L (5 * w + k) = f k) && xj_e L f w m (k + 1)
def xj_wl (L f : Nat → Int32) (d : Nat) : Nat → Int32 → Nat → Int32
  | 0, fo, _ => fo
  | n + 1, fo, w => xj_wl L f d n (if (d = 5 ∨ L (5 * w + d) = 0) ∧ xj_e L f w d 0 = true then nI w else fo) (w + 1)
def xj_ls (L f : Nat → Int32) (d : Nat) : Nat → Nat → List Int32
  | 0, _ => []
  | n + 1, w => if xj_e L f w d 0 = true ∧ d < 5 then L (5 * w + d) :: xj_ls L f d n (w + 1) else xj_ls L f d n (w + 1)
theorem xj_ce {L L' f f' : Nat → Int32} {w d : Nat} (hw : w < 7) (hd : d ≤ 5) (hL : ∀ j, j < 35 → L j = L' j) (hf : ∀ k, k < d → f k = f' k) : ∀ m k, k + m = d → xj_e L f w m k = xj_e L' f' w m k := by
  intro m
  induction m with
  | zero => intro k _; rfl
  | succ m ih =>
    intro k hk
    unfold xj_e
    rw [hL _ (by omega), hf _ (by omega), ih (k + 1) (by omega)]
theorem xj_cw {L L' f f' : Nat → Int32} {d : Nat} (hd : d ≤ 5) (hL : ∀ j, j < 35 → L j = L' j) (hf : ∀ k, k < d → f k = f' k) : ∀ n fo w, w + n = 7 → xj_wl L f d n fo w = xj_wl L' f' d n fo w := by
  intro n
  induction n with
  | zero => intro fo w _; rfl
  | succ n ih =>
    intro fo w hw
    unfold xj_wl
    rw [xj_ce (by omega) hd hL hf d 0 (by omega), ih _ _ (by omega)]
    by_cases h5 : d = 5
    · simp only [h5, true_or, true_and]
    · rw [hL _ (by omega)]
theorem xj_cl {L L' f f' : Nat → Int32} {d : Nat} (hd : d ≤ 5) (hL : ∀ j, j < 35 → L j = L' j) (hf : ∀ k, k < d → f k = f' k) : ∀ n w, w + n = 7 → xj_ls L f d n w = xj_ls L' f' d n w := by
  intro n
  induction n with
  | zero => intro w _; rfl
  | succ n ih =>
    intro w hw
    unfold xj_ls
    rw [xj_ce (by omega) hd hL hf d 0 (by omega), ih _ (by omega)]
    by_cases h5 : d < 5
    · rw [hL _ (by omega)]
    · simp only [h5, and_false, if_false]
theorem xj_48a {tf lf : Nat → Int32} {b d w : Nat} {fo : Int32} {K : Int32 → Int32 → Int32} (hb : b ≤ 200) (hd : d ≤ 5) (hw : w < 7) : ∀ (n m k : Nat) (sa : Int32), k + m = d → m < n → kR_whole_48a tf lf (nI (b + d)) (nI b) fo (nI w) K n sa (nI k) = if ¬ sa = 0 ∧ xj_e lf (fun j => tf (b + j)) w m k = true then K (nI w) (nI w + 1) else K fo (nI w + 1) := by
  intro n
  induction n with
  | zero => intro m k sa _ h; omega
  | succ n ih =>
    intro m k sa hk hm
    unfold kR_whole_48a
    rw [pk_sub (by omega), show b + d - b = d from by omega]
    have q1 : nI d ≤ nI k ↔ d ≤ k := nI_leI (by omega) (by omega)
    cases m with
    | zero =>
      rw [if_pos (q1.mpr (by omega))]
      unfold xj_e
      by_cases c : sa = 0
      · rw [if_pos c, if_neg (fun q => q.1 c)]
      · rw [if_neg c, if_pos ⟨c, rfl⟩]
    | succ m =>
      rw [if_neg (fun q => absurd (q1.mp q) (by omega))]
      have e1 : ((5 * nI w) + nI k).toNatClampNeg = 5 * w + k := by rw [show (5 : Int32) = nI 5 from rfl, pk_mul, nI_add]; exact nI_clamp (by omega)
      have e2 : (nI b + nI k).toNatClampNeg = b + k := by rw [nI_add]; exact nI_clamp (by omega)
      rw [e1, e2, nI_1]
      by_cases c : sa = 0
      · rw [if_pos c, ih m (k + 1) 0 (by omega) (by omega), if_neg (fun q => q.1 rfl), if_neg (fun q => q.1 c)]
      · rw [if_neg c]
        unfold xj_e
        by_cases c2 : lf (5 * w + k) = tf (b + k)
        · rw [if_pos c2, ih m (k + 1) 1 (by omega) (by omega)]
          simp only [c, c2, decide_true, Bool.true_and, not_false_eq_true, true_and, show ¬ (1 : Int32) = 0 from by decide]
        · rw [if_neg c2, ih m (k + 1) 0 (by omega) (by omega), if_neg (fun q => q.1 rfl)]
          simp only [c2, decide_false, Bool.false_and, Bool.false_eq_true, and_false, if_false]
theorem xj_48b {tf lf : Nat → Int32} {b d w : Nat} {fo : Int32} {K : Int32 → Int32 → Int32} (hb : b ≤ 200) (hd : d ≤ 5) (hw : w < 7) : ∀ (n m k : Nat) (sa : Int32), k + m = d → m < n → kR_whole_48b tf lf (nI (b + d)) (nI b) fo (nI w) K n sa (nI k) = if ¬ sa = 0 ∧ xj_e lf (fun j => tf (b + j)) w m k = true then K (nI w) (nI w + 1) else K fo (nI w + 1) := by
  intro n
  induction n with
  | zero => intro m k sa _ h; omega
  | succ n ih =>
    intro m k sa hk hm
    unfold kR_whole_48b
    rw [pk_sub (by omega), show b + d - b = d from by omega]
    have q1 : nI d ≤ nI k ↔ d ≤ k := nI_leI (by omega) (by omega)
    cases m with
    | zero =>
      rw [if_pos (q1.mpr (by omega))]
      unfold xj_e
      by_cases c : sa = 0
      · rw [if_pos c, if_neg (fun q => q.1 c)]
      · rw [if_neg c, if_pos ⟨c, rfl⟩]
    | succ m =>
      rw [if_neg (fun q => absurd (q1.mp q) (by omega))]
      have e1 : ((5 * nI w) + nI k).toNatClampNeg = 5 * w + k := by rw [show (5 : Int32) = nI 5 from rfl, pk_mul, nI_add]; exact nI_clamp (by omega)
      have e2 : (nI b + nI k).toNatClampNeg = b + k := by rw [nI_add]; exact nI_clamp (by omega)
      rw [e1, e2, nI_1]
      by_cases c : sa = 0
      · rw [if_pos c, ih m (k + 1) 0 (by omega) (by omega), if_neg (fun q => q.1 rfl), if_neg (fun q => q.1 c)]
      · rw [if_neg c]
        unfold xj_e
        by_cases c2 : lf (5 * w + k) = tf (b + k)
        · rw [if_pos c2, ih m (k + 1) 1 (by omega) (by omega)]
          simp only [c, c2, decide_true, Bool.true_and, not_false_eq_true, true_and, show ¬ (1 : Int32) = 0 from by decide]
        · rw [if_neg c2, ih m (k + 1) 0 (by omega) (by omega), if_neg (fun q => q.1 rfl)]
          simp only [c2, decide_false, Bool.false_and, Bool.false_eq_true, and_false, if_false]
theorem xj_48c {tf lf : Nat → Int32} {b d w : Nat} {fo : Int32} {K : Int32 → Int32 → Int32} (hb : b ≤ 200) (hd : d ≤ 5) (hw : w < 7) : ∀ (n m k : Nat) (sa : Int32), k + m = d → m < n → kR_whole_48c tf lf (nI (b + d)) (nI b) fo (nI w) K n sa (nI k) = if ¬ sa = 0 ∧ xj_e lf (fun j => tf (b + j)) w m k = true then K (nI w) (nI w + 1) else K fo (nI w + 1) := by
  intro n
  induction n with
  | zero => intro m k sa _ h; omega
  | succ n ih =>
    intro m k sa hk hm
    unfold kR_whole_48c
    rw [pk_sub (by omega), show b + d - b = d from by omega]
    have q1 : nI d ≤ nI k ↔ d ≤ k := nI_leI (by omega) (by omega)
    cases m with
    | zero =>
      rw [if_pos (q1.mpr (by omega))]
      unfold xj_e
      by_cases c : sa = 0
      · rw [if_pos c, if_neg (fun q => q.1 c)]
      · rw [if_neg c, if_pos ⟨c, rfl⟩]
    | succ m =>
      rw [if_neg (fun q => absurd (q1.mp q) (by omega))]
      have e1 : ((5 * nI w) + nI k).toNatClampNeg = 5 * w + k := by rw [show (5 : Int32) = nI 5 from rfl, pk_mul, nI_add]; exact nI_clamp (by omega)
      have e2 : (nI b + nI k).toNatClampNeg = b + k := by rw [nI_add]; exact nI_clamp (by omega)
      rw [e1, e2, nI_1]
      by_cases c : sa = 0
      · rw [if_pos c, ih m (k + 1) 0 (by omega) (by omega), if_neg (fun q => q.1 rfl), if_neg (fun q => q.1 c)]
      · rw [if_neg c]
        unfold xj_e
        by_cases c2 : lf (5 * w + k) = tf (b + k)
        · rw [if_pos c2, ih m (k + 1) 1 (by omega) (by omega)]
          simp only [c, c2, decide_true, Bool.true_and, not_false_eq_true, true_and, show ¬ (1 : Int32) = 0 from by decide]
        · rw [if_neg c2, ih m (k + 1) 0 (by omega) (by omega), if_neg (fun q => q.1 rfl)]
          simp only [c2, decide_false, Bool.false_and, Bool.false_eq_true, and_false, if_false]
theorem xj_4a {tf lf : Nat → Int32} {b d : Nat} (hb : b ≤ 200) (hd : d ≤ 5) : ∀ (n w : Nat) (fo : Int32), w + n = 7 → kR_whole_4a tf lf (nI (b + d)) (nI b) (n + 1) fo (nI w) = xj_wl lf (fun j => tf (b + j)) d n fo w := by
  intro n
  induction n with
  | zero =>
    intro w fo hw
    have q7 : (7 : Int32) ≤ nI w ↔ 7 ≤ w := nI_leI (a := 7) (by decide) (by omega)
    unfold kR_whole_4a xj_wl
    rw [if_pos (q7.mpr (by omega))]
  | succ n ih =>
    intro w fo hw
    have q7 : (7 : Int32) ≤ nI w ↔ 7 ≤ w := nI_leI (a := 7) (by decide) (by omega)
    unfold kR_whole_4a xj_wl
    rw [if_neg (fun q => absurd (q7.mp q) (by omega))]
    rw [pk_sub (by omega), show b + d - b = d from by omega]
    have e1 : (((5 * nI w) + nI (b + d)) - nI b).toNatClampNeg = 5 * w + d := by rw [show (5 : Int32) = nI 5 from rfl, pk_mul, nI_add, pk_sub (by omega), show 5 * w + (b + d) - b = 5 * w + d from by omega]; exact nI_clamp (by omega)
    have q5 : nI d = 5 ↔ d = 5 := nI_eq (b := 5) (by omega) (by decide)
    have z0 : (0 : Int32) = nI 0 := rfl
    rw [e1]
    by_cases c5 : d = 5
    · rw [if_pos (q5.mpr c5)]
      conv => lhs; rw [z0]
      rw [xj_48a hb hd (by omega) 6 d 0 1 (by omega) (by omega)]
      simp only [c5, true_or, true_and, show ¬ (1 : Int32) = 0 from by decide, not_false_eq_true, nI_1]
      subst c5
      split
      · exact ih _ _ (by omega)
      · exact ih _ _ (by omega)
    · rw [if_neg (fun q => c5 (q5.mp q))]
      by_cases c0 : lf (5 * w + d) = 0
      · rw [if_pos c0]
        conv => lhs; rw [z0]
        rw [xj_48c hb hd (by omega) 6 d 0 1 (by omega) (by omega)]
        simp only [c0, or_true, true_and, show ¬ (1 : Int32) = 0 from by decide, not_false_eq_true, nI_1]
        split
        · exact ih _ _ (by omega)
        · exact ih _ _ (by omega)
      · rw [if_neg c0]
        rw [show kR_whole_48b tf lf (nI (b + d)) (nI b) fo (nI w) (fun fo ww => kR_whole_4a tf lf (nI (b + d)) (nI b) (n + 1) fo ww) 6 0 0 = kR_whole_48b tf lf (nI (b + d)) (nI b) fo (nI w) (fun fo ww => kR_whole_4a tf lf (nI (b + d)) (nI b) (n + 1) fo ww) 6 0 (nI 0) from rfl]
        rw [xj_48b hb hd (by omega) 6 d 0 0 (by omega) (by omega), if_neg (fun q => q.1 rfl), if_neg (fun q => q.1.elim c5 c0), nI_1]
        exact ih _ _ (by omega)
theorem xj_wh {tf lf : Nat → Int32} {b d : Nat} (hb : b ≤ 200) (hd : d ≤ 5) : fR_whole tf lf (nI (b + d)) (nI b) = xj_wl lf (fun j => tf (b + j)) d 7 (-1) 0 := xj_4a hb hd 7 0 (-1) (by omega)
/-! the next letter -/
theorem xj_6a {tf lf : Nat → Int32} {b d w : Nat} {ch : Int32} (hb : b ≤ 200) (hd : d ≤ 5) (hw : w < 7) : ∀ (n m k : Nat) (sa : Int32), k + m = d → m < n → (kR_may_6a tf lf (nI (b + d)) (nI w) (nI b) ch n sa (nI k) = true ↔ ¬ sa = 0 ∧ xj_e lf (fun j => tf (b + j)) w m k = true ∧ d < 5 ∧ lf (5 * w + d) = ch) := by
  intro n
  induction n with
  | zero => intro m k sa _ h; omega
  | succ n ih =>
    intro m k sa hk hm
    unfold kR_may_6a
    rw [pk_sub (by omega), show b + d - b = d from by omega]
    have q1 : nI d ≤ nI k ↔ d ≤ k := nI_leI (by omega) (by omega)
    have q5 : (5 : Int32) ≤ nI d ↔ 5 ≤ d := nI_leI (a := 5) (by decide) (by omega)
    have e0 : (((5 * nI w) + nI (b + d)) - nI b).toNatClampNeg = 5 * w + d := by rw [show (5 : Int32) = nI 5 from rfl, pk_mul, nI_add, pk_sub (by omega), show 5 * w + (b + d) - b = 5 * w + d from by omega]; exact nI_clamp (by omega)
    cases m with
    | zero =>
      rw [if_pos (q1.mpr (by omega)), e0]
      unfold xj_e
      by_cases c : sa = 0
      · simp [c]
      · by_cases c5 : d < 5
        · have : ¬ (5 : Int32) ≤ nI d := fun q => absurd (q5.mp q) (by omega)
          simp [c, this, c5]
        · have : (5 : Int32) ≤ nI d := q5.mpr (by omega)
          simp [c, this, c5]
    | succ m =>
      rw [if_neg (fun q => absurd (q1.mp q) (by omega))]
      have e1 : ((5 * nI w) + nI k).toNatClampNeg = 5 * w + k := by rw [show (5 : Int32) = nI 5 from rfl, pk_mul, nI_add]; exact nI_clamp (by omega)
      have e2 : (nI b + nI k).toNatClampNeg = b + k := by rw [nI_add]; exact nI_clamp (by omega)
      rw [e1, e2, nI_1]
      by_cases c : sa = 0
      · rw [if_pos c, ih m (k + 1) 0 (by omega) (by omega)]
        simp [c]
      · rw [if_neg c]
        unfold xj_e
        by_cases c2 : lf (5 * w + k) = tf (b + k)
        · rw [if_pos c2, ih m (k + 1) 1 (by omega) (by omega)]
          simp [c, c2]
        · rw [if_neg c2, ih m (k + 1) 0 (by omega) (by omega)]
          simp [c2]
theorem xj_so {tf lf : Nat → Int32} {zs : Int32} {b d : Nat} (hb : b ≤ 200) (hd : d ≤ 5) (hn : ¬ fR_now tf zs (nI (b + d)) = -1) : ∀ (n w : Nat) (so : Int32), w + n = 7 → (xr_so tf lf zs (nI b) (nI (b + d)) (n + 1) so (nI w) = 0 ↔ so = 0 ∧ ¬ fR_now tf zs (nI (b + d)) ∈ xj_ls lf (fun j => tf (b + j)) d n w) := by
  intro n
  induction n with
  | zero =>
    intro w so hw
    have q7 : (7 : Int32) ≤ nI w ↔ 7 ≤ w := nI_leI (a := 7) (by decide) (by omega)
    unfold xr_so xj_ls
    rw [if_pos (q7.mpr (by omega))]
    simp
  | succ n ih =>
    intro w so hw
    have q7 : (7 : Int32) ≤ nI w ↔ 7 ≤ w := nI_leI (a := 7) (by decide) (by omega)
    unfold xr_so xj_ls
    rw [if_neg (fun q => absurd (q7.mp q) (by omega)), nI_1]
    by_cases c : so = 0
    · rw [if_pos c, if_neg hn]
      have hm : fR_may tf lf (nI (b + d)) (nI w) (nI b) (fR_now tf zs (nI (b + d))) = true ↔ _ := xj_6a hb hd (by omega) 6 d 0 1 (by omega) (by omega)
      by_cases c2 : fR_may tf lf (nI (b + d)) (nI w) (nI b) (fR_now tf zs (nI (b + d))) = true
      · rw [if_pos c2, ih _ _ (by omega)]
        obtain ⟨-, h1, h2, h3⟩ := hm.mp c2
        rw [if_pos ⟨h1, h2⟩, h3]
        simp
      · rw [if_neg c2, ih _ _ (by omega)]
        by_cases c3 : xj_e lf (fun j => tf (b + j)) w d 0 = true ∧ d < 5
        · rw [if_pos c3]
          have h3 : ¬ lf (5 * w + d) = fR_now tf zs (nI (b + d)) := fun q => c2 (hm.mpr ⟨by decide, c3.1, c3.2, q⟩)
          simp [c, h3, Ne.symm h3]
        · rw [if_neg c3]
          simp [c]
    · rw [if_neg c, ih _ _ (by omega)]
      simp [c]
/-! the reference's word, letter by letter -/
def xj_walk (c : Nat → Int32) : Nat → List Int32 → Bool × Nat
  | 0, p => (false, p.length)
  | n + 1, p => if xj_wl xj_L (fun k => p.getD k 0) p.length 7 (-1) 0 = -1 then (if c p.length ∈ xj_ls xj_L (fun k => p.getD k 0) p.length 7 0 then xj_walk c n (p ++ [c p.length]) else (false, p.length)) else (true, p.length)
theorem xj_nm {a : Nat} (h : a < 2 ^ 31) : ¬ nI a = -1 := by
  intro q
  have h0 := nI_pos' h
  rw [q] at h0
  exact absurd h0 (by decide)
theorem xj_m1 {a : Nat} (h : a < 2 ^ 31) : gR_must_3 (nI a) (-1) 0 = nI a ∧ gR_must_4 (nI a) (-1) 0 = nI a := by
  unfold gR_must_3 gR_must_4
  rw [if_pos rfl, if_pos rfl, if_neg (xj_nm h), if_pos rfl, if_pos rfl, ite_self]
  exact ⟨rfl, rfl⟩
theorem xj_m2 {a : Nat} {is : Int32} (h : ¬ is = 0) : gR_must_3 (nI a) (-1) is = nI (a + 1) ∧ gR_must_4 (nI a) (-1) is = -1 := by
  unfold gR_must_3 gR_must_4
  rw [if_pos rfl, if_pos rfl, if_neg h, if_neg h, if_pos rfl, if_pos rfl, nI_1]
  exact ⟨rfl, rfl⟩
theorem xj_m5 {po fa is : Int32} (h : ¬ fa = -1) : gR_must_3 po fa is = po ∧ gR_must_4 po fa is = fa := by
  unfold gR_must_3 gR_must_4
  rw [if_neg h, if_neg h, if_neg h, if_neg h]
  exact ⟨rfl, rfl⟩
def xj_c (tf : Nat → Int32) (zs : Int32) (b k : Nat) : Int32 := fR_now tf zs (nI (b + k))
theorem xj_now {tf : Nat → Int32} {zs : Int32} {a : Nat} (ha : a < 2 ^ 31) (h : ¬ fR_now tf zs (nI a) = -1) : fR_now tf zs (nI a) = tf a := by
  unfold fR_now at h ⊢
  by_cases c : zs ≤ nI a
  · rw [if_pos c] at h; exact absurd rfl h
  · rw [if_neg c, nI_clamp ha]
theorem xj_lm : ∀ (p : List Int32) (d n w : Nat), ¬ (-1 : Int32) ∈ xj_ls xj_L (fun k => p.getD k 0) d n w := by
  intro p d n
  induction n with
  | zero => intro w h; exact absurd h List.not_mem_nil
  | succ n ih =>
    intro w h
    unfold xj_ls at h
    have hL : ∀ j, ¬ xj_L j = -1 := by
      intro j
      unfold xj_L
      by_cases hj : j < 35
      · revert j; decide
      · rw [List.getD_eq_getElem?_getD, List.getElem?_eq_none (by simpa using hj)]; decide
    split at h
    · rcases List.mem_cons.mp h with q | q
      · exact hL _ q.symm
      · exact ih _ q
    · exact ih _ h
theorem xj_wd {tf lf : Nat → Int32} {zs fa : Int32} {b : Nat} (hb : b ≤ 200) (hL : ∀ j, j < 35 → lf j = xj_L j) : ∀ (n : Nat) (p : List Int32), p.length ≤ 5 → 6 ≤ p.length + n → (∀ k, k < p.length → tf (b + k) = p.getD k 0) →
    kR_word_5a_1 tf lf zs (nI b) fa (n + 1) (nI (b + p.length)) (-1) = nI (b + (xj_walk (xj_c tf zs b) n p).2) ∧ kR_word_5a_2 tf lf zs (nI b) fa (n + 1) (nI (b + p.length)) (-1) = (if (xj_walk (xj_c tf zs b) n p).1 = true then -1 else nI (b + (xj_walk (xj_c tf zs b) n p).2)) := by
  intro n
  induction n with
  | zero => intro p h1 h2; omega
  | succ n ih =>
    intro p h1 h2 hp
    have ew : fR_whole tf lf (nI (b + p.length)) (nI b) = xj_wl xj_L (fun k => p.getD k 0) p.length 7 (-1) 0 := (xj_wh hb h1).trans (xj_cw h1 hL hp 7 (-1) 0 (by omega))
    have el : xj_ls lf (fun j => tf (b + j)) p.length 7 0 = xj_ls xj_L (fun k => p.getD k 0) p.length 7 0 := xj_cl h1 hL hp 7 0 (by omega)
    have hc : xl_c 0 7 8 0 := ⟨0, rfl, by omega, by omega, by omega⟩
    unfold xj_walk kR_word_5a_1 kR_word_5a_2
    simp only [if_true]
    rw [ew]
    by_cases c1 : xj_wl xj_L (fun k => p.getD k 0) p.length 7 (-1) 0 = -1
    · simp only [if_pos c1]
      rw [(xr_so2 (K := fun pq fb => kR_word_5a_1 tf lf zs (nI b) fa (n + 1) pq fb) 8 0 0 hc).2.1, (xr_so2 (K := fun pq fb => kR_word_5a_2 tf lf zs (nI b) fa (n + 1) pq fb) 8 0 0 hc).2.2]
      by_cases c2 : xj_c tf zs b p.length ∈ xj_ls xj_L (fun k => p.getD k 0) p.length 7 0
      · simp only [if_pos c2]
        have hn : ¬ fR_now tf zs (nI (b + p.length)) = -1 := fun q => xj_lm p p.length 7 0 (q ▸ c2)
        have hs : ¬ xr_so tf lf zs (nI b) (nI (b + p.length)) 8 0 0 = 0 := fun q => ((xj_so (lf := lf) hb h1 hn 7 0 0 (by omega)).mp q).2 (by rw [el]; exact c2)
        rw [(xj_m2 hs).1, (xj_m2 hs).2]
        have h5 : p.length < 5 := by
          rcases Nat.lt_or_ge p.length 5 with q | q
          · exact q
          · exfalso
            have : ∀ n w, xj_ls xj_L (fun k => p.getD k 0) p.length n w = [] := by
              intro n
              induction n with
              | zero => intro w; rfl
              | succ n ih2 => intro w; unfold xj_ls; rw [if_neg (fun z => absurd z.2 (by omega))]; exact ih2 _
            rw [this] at c2
            exact absurd c2 List.not_mem_nil
        have hk := ih (p ++ [xj_c tf zs b p.length]) (by simp; omega) (by simp; omega) (by
          intro k hk
          rw [List.length_append, List.length_singleton] at hk
          by_cases hk2 : k < p.length
          · rw [hp k hk2, List.getD_eq_getElem?_getD, List.getD_eq_getElem?_getD, List.getElem?_append_left hk2]
          · have : k = p.length := by omega
            subst this
            rw [List.getD_eq_getElem?_getD, List.getElem?_append_right (Nat.le_refl _), Nat.sub_self]
            exact (xj_now (by omega) hn).symm)
        rw [List.length_append, List.length_singleton, ← Nat.add_assoc] at hk
        exact hk
      · simp only [if_neg c2]
        have hs : xr_so tf lf zs (nI b) (nI (b + p.length)) 8 0 0 = 0 := by
          by_cases hn : fR_now tf zs (nI (b + p.length)) = -1
          · rcases Decidable.em (xr_so tf lf zs (nI b) (nI (b + p.length)) 8 0 0 = 0) with q | q
            · exact q
            · exact absurd hn (xr_so1 8 0 0 (fun z => absurd rfl z) q)
          · exact (xj_so (lf := lf) hb h1 hn 7 0 0 (by omega)).mpr ⟨rfl, by rw [el]; exact c2⟩
        rw [hs, (xj_m1 (by omega)).1, (xj_m1 (by omega)).2]
        unfold kR_word_5a_1 kR_word_5a_2
        have z := xj_nm (a := b + p.length) (by omega)
        simp only [if_neg z]
        exact ⟨trivial, rfl⟩
    · simp only [if_neg c1]
      exact ⟨trivial, rfl⟩
/-! the class's word -/
theorem xj_look {uf tf : Nat → Int32} {Z a : Nat} (hZ : Z ≤ 200) (ht : ∀ j, j < Z → uf j = tf j) (ha : a < 2 ^ 31) : fT_look uf (nI Z) (nI a) = fR_now tf (nI Z) (nI a) := by
  unfold fT_look fR_now
  rw [if_neg (Int32.not_lt.mpr (nI_pos' ha))]
  have q : nI Z ≤ nI a ↔ Z ≤ a := nI_leI (by omega) ha
  by_cases c : Z ≤ a
  · rw [if_pos (q.mpr c), if_pos (q.mpr c)]
  · rw [if_neg (fun z => c (q.mp z)), if_neg (fun z => c (q.mp z)), nI_clamp ha]
    exact ht a (by omega)
def xj_pm : List Int32 → (Nat → Int32) → Nat → Nat
  | [], _, _ => 0
  | x :: xs, c, k => if c k = x then xj_pm xs c (k + 1) + 1 else 0
theorem xj_pl : ∀ (ys : List Int32) (c : Nat → Int32) (k : Nat), xj_pm ys c k ≤ ys.length := by
  intro ys
  induction ys with
  | nil => intro c k; exact Nat.le_refl _
  | cons x ys ih =>
    intro c k
    unfold xj_pm
    split
    · exact Nat.succ_le_succ (ih c (k + 1))
    · exact Nat.zero_le _
theorem xj_len : ∀ wi, wi < 7 → xs_len.getD wi 0 = (xs_byt.getD wi []).length ∧ (xs_byt.getD wi []).length ≤ 5 := by decide
theorem xj_chr : ∀ wi, wi < 7 → ∀ a, a < 5 → fS_charAt wi (nI a) = (xs_byt.getD wi []).getD a 0 := by decide
theorem xj_ua {uf tf : Nat → Int32} {Z b wi : Nat} (hZ : Z ≤ 200) (ht : ∀ j, j < Z → uf j = tf j) (hb : b ≤ 200) (hw : wi < 7) : ∀ (ys : List Int32) (n a : Nat), (xs_byt.getD wi []).drop a = ys → ys.length < n → a ≤ 5 → kT_unitsAlike_2a uf (nI Z) (nI b) wi n (nI a) = nI (a + xj_pm ys (xj_c tf (nI Z) b) a) := by
  intro ys
  induction ys with
  | nil =>
    intro n a hd hn ha
    obtain ⟨e, -⟩ := xj_len wi hw
    cases n with
    | zero => exact absurd hn (Nat.not_lt_zero _)
    | succ n =>
      unfold kT_unitsAlike_2a
      have h1 := List.drop_eq_nil_iff.mp hd
      rw [xs_l hw, if_pos ((nI_leI (by rw [e]; omega) (by omega)).mpr (by rw [e]; exact h1))]
      rfl
  | cons x ys ih =>
    intro n a hd hn ha
    obtain ⟨e, e5⟩ := xj_len wi hw
    have hl : a < (xs_byt.getD wi []).length := by
      have := congrArg List.length hd
      rw [List.length_drop, List.length_cons] at this
      omega
    have hx : (xs_byt.getD wi []).getD a 0 = x := by
      have := congrArg (fun l => l[0]?) hd
      simp only [List.getElem?_drop, Nat.add_zero, List.getElem?_cons_zero] at this
      rw [List.getD_eq_getElem?_getD, this]
      rfl
    have hd2 : (xs_byt.getD wi []).drop (a + 1) = ys := by
      have := congrArg List.tail hd
      rw [List.tail_drop] at this
      exact this
    cases n with
    | zero => exact absurd hn (Nat.not_lt_zero _)
    | succ n =>
      unfold kT_unitsAlike_2a xj_pm
      rw [xs_l hw, if_neg (fun q => absurd ((nI_leI (by rw [e]; omega) (by omega)).mp q) (by rw [e]; omega)), nI_add, xj_look hZ ht (by omega), xj_chr wi hw a (by omega), hx, nI_1]
      by_cases c : xj_c tf (nI Z) b a = x
      · rw [if_pos c, if_pos (show fR_now tf (nI Z) (nI (b + a)) = x from c), ih n (a + 1) hd2 (by rw [List.length_cons] at hn; omega) (by omega)]
        congr 1
        omega
      · rw [if_neg c, if_neg (show ¬ fR_now tf (nI Z) (nI (b + a)) = x from c)]
        rfl
theorem xj_al {uf tf : Nat → Int32} {Z b wi : Nat} (hZ : Z ≤ 200) (ht : ∀ j, j < Z → uf j = tf j) (hb : b ≤ 200) (hw : wi < 7) : fT_unitsAlike uf (nI Z) (nI b) wi = nI (xj_pm (xs_byt.getD wi []) (xj_c tf (nI Z) b) 0) := by
  have h := xj_ua hZ ht hb hw (xs_byt.getD wi []) 6 0 rfl (by have := (xj_len wi hw).2; omega) (by omega)
  rw [Nat.zero_add] at h
  exact h
def xj_tw (c : Nat → Int32) : List (List Int32) → Nat → Bool × Nat
  | [], fu => (false, fu)
  | w :: ws, fu => if xj_pm w c 0 = w.length then (true, w.length) else xj_tw c ws (if fu < xj_pm w c 0 then xj_pm w c 0 else fu)
theorem xj_wi : ∀ i, i < 7 → fN_wordOf (nI i) = i := by decide
theorem xj_tk {uf tf : Nat → Int32} {Z b : Nat} (hZ : Z ≤ 200) (ht : ∀ j, j < Z → uf j = tf j) (hb : b ≤ 200) : ∀ (ws : List (List Int32)) (n i fu : Nat), xs_byt.drop i = ws → i + ws.length = 7 → ws.length < n → fu ≤ 5 →
    (kT_takeWord_4a_0 uf (nI Z) (nI b) n (nI fu) (nI i) = -1 ↔ (xj_tw (xj_c tf (nI Z) b) ws fu).1 = false) ∧ kT_takeWord_4a_1 uf (nI Z) (nI b) n (nI fu) (nI i) = nI (b + (xj_tw (xj_c tf (nI Z) b) ws fu).2) := by
  intro ws
  induction ws with
  | nil =>
    intro n i fu hd hi hn hf
    cases n with
    | zero => exact absurd hn (Nat.not_lt_zero _)
    | succ n =>
      have q7 : (7 : Int32) ≤ nI i ↔ 7 ≤ i := nI_leI (a := 7) (by decide) (by rw [List.length_nil] at hi; omega)
      unfold kT_takeWord_4a_0 kT_takeWord_4a_1 xj_tw
      rw [List.length_nil] at hi
      rw [if_pos (q7.mpr (by omega)), if_pos (q7.mpr (by omega)), nI_add]
      exact ⟨⟨fun _ => rfl, fun _ => rfl⟩, rfl⟩
  | cons w ws ih =>
    intro n i fu hd hi hn hf
    rw [List.length_cons] at hi hn
    have hx : xs_byt.getD i [] = w := by
      have := congrArg (fun l => l[0]?) hd
      simp only [List.getElem?_drop, Nat.add_zero, List.getElem?_cons_zero] at this
      rw [List.getD_eq_getElem?_getD, this]
      rfl
    have hd2 : xs_byt.drop (i + 1) = ws := by
      have := congrArg List.tail hd
      rw [List.tail_drop] at this
      exact this
    have hw : i < 7 := by omega
    cases n with
    | zero => exact absurd hn (Nat.not_lt_zero _)
    | succ n =>
      have q7 : (7 : Int32) ≤ nI i ↔ 7 ≤ i := nI_leI (a := 7) (by decide) (by omega)
      obtain ⟨e, e5⟩ := xj_len i hw
      have hp := xj_pl w (xj_c tf (nI Z) b) 0
      rw [hx] at e e5
      unfold kT_takeWord_4a_0 kT_takeWord_4a_1 xj_tw
      rw [if_neg (fun q => absurd (q7.mp q) (by omega)), if_neg (fun q => absurd (q7.mp q) (by omega)), xj_wi i hw, xj_al hZ ht hb hw, xs_l hw, e, hx]
      have qe : nI (xj_pm w (xj_c tf (nI Z) b) 0) = nI w.length ↔ xj_pm w (xj_c tf (nI Z) b) 0 = w.length := nI_eq (by omega) (by omega)
      by_cases c : xj_pm w (xj_c tf (nI Z) b) 0 = w.length
      · rw [if_pos (qe.mpr c), if_pos (qe.mpr c), if_pos c, nI_add, c]
        exact ⟨⟨fun q => absurd q (xj_nm (by omega)), fun q => by cases q⟩, rfl⟩
      · rw [if_neg (fun q => c (qe.mp q)), if_neg (fun q => c (qe.mp q)), if_neg c, nI_1]
        have ql : nI fu < nI (xj_pm w (xj_c tf (nI Z) b) 0) ↔ fu < xj_pm w (xj_c tf (nI Z) b) 0 := nI_ltI (by omega) (by omega)
        have em : (if nI fu < nI (xj_pm w (xj_c tf (nI Z) b) 0) then nI (xj_pm w (xj_c tf (nI Z) b) 0) else nI fu) = nI (if fu < xj_pm w (xj_c tf (nI Z) b) 0 then xj_pm w (xj_c tf (nI Z) b) 0 else fu) := by
          by_cases c2 : fu < xj_pm w (xj_c tf (nI Z) b) 0
          · rw [if_pos (ql.mpr c2), if_pos c2]
          · rw [if_neg (fun q => c2 (ql.mp q)), if_neg c2]
        rw [em]
        exact ih n (i + 1) _ hd2 (by omega) (by omega) (by split <;> omega)
theorem xj_n0 {c : Nat → Int32} {n : Nat} : xj_walk c (n + 1) [] = if c 0 ∈ ([115, 102, 101, 101, 115, 114, 116] : List Int32) then xj_walk c n ([] ++ [c 0]) else (false, 0) := by
  conv => lhs; unfold xj_walk
  rw [if_pos (by decide), show xj_ls xj_L (fun k => ([] : List Int32).getD k 0) ([] : List Int32).length 7 0 = [115, 102, 101, 101, 115, 114, 116] from by decide]
  rfl
theorem xj_n1 {c : Nat → Int32} {n : Nat} : xj_walk c (n + 1) [115] = if c 1 ∈ ([105, 105] : List Int32) then xj_walk c n ([115] ++ [c 1]) else (false, 1) := by
  conv => lhs; unfold xj_walk
  rw [if_pos (by decide), show xj_ls xj_L (fun k => ([115] : List Int32).getD k 0) ([115] : List Int32).length 7 0 = [105, 105] from by decide]
  rfl
theorem xj_n2 {c : Nat → Int32} {n : Nat} : xj_walk c (n + 1) [115, 105] = if c 2 ∈ ([122, 100] : List Int32) then xj_walk c n ([115, 105] ++ [c 2]) else (false, 2) := by
  conv => lhs; unfold xj_walk
  rw [if_pos (by decide), show xj_ls xj_L (fun k => ([115, 105] : List Int32).getD k 0) ([115, 105] : List Int32).length 7 0 = [122, 100] from by decide]
  rfl
theorem xj_n3 {c : Nat → Int32} {n : Nat} : xj_walk c (n + 1) [115, 105, 122] = if c 3 ∈ ([101] : List Int32) then xj_walk c n ([115, 105, 122] ++ [c 3]) else (false, 3) := by
  conv => lhs; unfold xj_walk
  rw [if_pos (by decide), show xj_ls xj_L (fun k => ([115, 105, 122] : List Int32).getD k 0) ([115, 105, 122] : List Int32).length 7 0 = [101] from by decide]
  rfl
theorem xj_n4 {c : Nat → Int32} {n : Nat} : xj_walk c (n + 1) [115, 105, 100] = if c 3 ∈ ([101] : List Int32) then xj_walk c n ([115, 105, 100] ++ [c 3]) else (false, 3) := by
  conv => lhs; unfold xj_walk
  rw [if_pos (by decide), show xj_ls xj_L (fun k => ([115, 105, 100] : List Int32).getD k 0) ([115, 105, 100] : List Int32).length 7 0 = [101] from by decide]
  rfl
theorem xj_n5 {c : Nat → Int32} {n : Nat} : xj_walk c (n + 1) [102] = if c 1 ∈ ([111] : List Int32) then xj_walk c n ([102] ++ [c 1]) else (false, 1) := by
  conv => lhs; unfold xj_walk
  rw [if_pos (by decide), show xj_ls xj_L (fun k => ([102] : List Int32).getD k 0) ([102] : List Int32).length 7 0 = [111] from by decide]
  rfl
theorem xj_n6 {c : Nat → Int32} {n : Nat} : xj_walk c (n + 1) [102, 111] = if c 2 ∈ ([114] : List Int32) then xj_walk c n ([102, 111] ++ [c 2]) else (false, 2) := by
  conv => lhs; unfold xj_walk
  rw [if_pos (by decide), show xj_ls xj_L (fun k => ([102, 111] : List Int32).getD k 0) ([102, 111] : List Int32).length 7 0 = [114] from by decide]
  rfl
theorem xj_n7 {c : Nat → Int32} {n : Nat} : xj_walk c (n + 1) [102, 111, 114] = if c 3 ∈ ([99] : List Int32) then xj_walk c n ([102, 111, 114] ++ [c 3]) else (false, 3) := by
  conv => lhs; unfold xj_walk
  rw [if_pos (by decide), show xj_ls xj_L (fun k => ([102, 111, 114] : List Int32).getD k 0) ([102, 111, 114] : List Int32).length 7 0 = [99] from by decide]
  rfl
theorem xj_n8 {c : Nat → Int32} {n : Nat} : xj_walk c (n + 1) [102, 111, 114, 99] = if c 4 ∈ ([101] : List Int32) then xj_walk c n ([102, 111, 114, 99] ++ [c 4]) else (false, 4) := by
  conv => lhs; unfold xj_walk
  rw [if_pos (by decide), show xj_ls xj_L (fun k => ([102, 111, 114, 99] : List Int32).getD k 0) ([102, 111, 114, 99] : List Int32).length 7 0 = [101] from by decide]
  rfl
theorem xj_n9 {c : Nat → Int32} {n : Nat} : xj_walk c (n + 1) [101] = if c 1 ∈ ([100, 110] : List Int32) then xj_walk c n ([101] ++ [c 1]) else (false, 1) := by
  conv => lhs; unfold xj_walk
  rw [if_pos (by decide), show xj_ls xj_L (fun k => ([101] : List Int32).getD k 0) ([101] : List Int32).length 7 0 = [100, 110] from by decide]
  rfl
theorem xj_n10 {c : Nat → Int32} {n : Nat} : xj_walk c (n + 1) [101, 100] = if c 2 ∈ ([103] : List Int32) then xj_walk c n ([101, 100] ++ [c 2]) else (false, 2) := by
  conv => lhs; unfold xj_walk
  rw [if_pos (by decide), show xj_ls xj_L (fun k => ([101, 100] : List Int32).getD k 0) ([101, 100] : List Int32).length 7 0 = [103] from by decide]
  rfl
theorem xj_n11 {c : Nat → Int32} {n : Nat} : xj_walk c (n + 1) [101, 100, 103] = if c 3 ∈ ([101] : List Int32) then xj_walk c n ([101, 100, 103] ++ [c 3]) else (false, 3) := by
  conv => lhs; unfold xj_walk
  rw [if_pos (by decide), show xj_ls xj_L (fun k => ([101, 100, 103] : List Int32).getD k 0) ([101, 100, 103] : List Int32).length 7 0 = [101] from by decide]
  rfl
theorem xj_n12 {c : Nat → Int32} {n : Nat} : xj_walk c (n + 1) [101, 110] = if c 2 ∈ ([100] : List Int32) then xj_walk c n ([101, 110] ++ [c 2]) else (false, 2) := by
  conv => lhs; unfold xj_walk
  rw [if_pos (by decide), show xj_ls xj_L (fun k => ([101, 110] : List Int32).getD k 0) ([101, 110] : List Int32).length 7 0 = [100] from by decide]
  rfl
theorem xj_n13 {c : Nat → Int32} {n : Nat} : xj_walk c (n + 1) [114] = if c 1 ∈ ([111] : List Int32) then xj_walk c n ([114] ++ [c 1]) else (false, 1) := by
  conv => lhs; unfold xj_walk
  rw [if_pos (by decide), show xj_ls xj_L (fun k => ([114] : List Int32).getD k 0) ([114] : List Int32).length 7 0 = [111] from by decide]
  rfl
theorem xj_n14 {c : Nat → Int32} {n : Nat} : xj_walk c (n + 1) [114, 111] = if c 2 ∈ ([119] : List Int32) then xj_walk c n ([114, 111] ++ [c 2]) else (false, 2) := by
  conv => lhs; unfold xj_walk
  rw [if_pos (by decide), show xj_ls xj_L (fun k => ([114, 111] : List Int32).getD k 0) ([114, 111] : List Int32).length 7 0 = [119] from by decide]
  rfl
theorem xj_n15 {c : Nat → Int32} {n : Nat} : xj_walk c (n + 1) [116] = if c 1 ∈ ([104] : List Int32) then xj_walk c n ([116] ++ [c 1]) else (false, 1) := by
  conv => lhs; unfold xj_walk
  rw [if_pos (by decide), show xj_ls xj_L (fun k => ([116] : List Int32).getD k 0) ([116] : List Int32).length 7 0 = [104] from by decide]
  rfl
theorem xj_n16 {c : Nat → Int32} {n : Nat} : xj_walk c (n + 1) [116, 104] = if c 2 ∈ ([105] : List Int32) then xj_walk c n ([116, 104] ++ [c 2]) else (false, 2) := by
  conv => lhs; unfold xj_walk
  rw [if_pos (by decide), show xj_ls xj_L (fun k => ([116, 104] : List Int32).getD k 0) ([116, 104] : List Int32).length 7 0 = [105] from by decide]
  rfl
theorem xj_n17 {c : Nat → Int32} {n : Nat} : xj_walk c (n + 1) [116, 104, 105] = if c 3 ∈ ([110] : List Int32) then xj_walk c n ([116, 104, 105] ++ [c 3]) else (false, 3) := by
  conv => lhs; unfold xj_walk
  rw [if_pos (by decide), show xj_ls xj_L (fun k => ([116, 104, 105] : List Int32).getD k 0) ([116, 104, 105] : List Int32).length 7 0 = [110] from by decide]
  rfl
theorem xj_w0 {c : Nat → Int32} {n : Nat} : xj_walk c (n + 1) [115, 105, 122, 101] = (true, 4) := by
  unfold xj_walk
  rw [if_neg (by decide)]
  rfl
theorem xj_w1 {c : Nat → Int32} {n : Nat} : xj_walk c (n + 1) [102, 111, 114, 99, 101] = (true, 5) := by
  unfold xj_walk
  rw [if_neg (by decide)]
  rfl
theorem xj_w2 {c : Nat → Int32} {n : Nat} : xj_walk c (n + 1) [101, 100, 103, 101] = (true, 4) := by
  unfold xj_walk
  rw [if_neg (by decide)]
  rfl
theorem xj_w3 {c : Nat → Int32} {n : Nat} : xj_walk c (n + 1) [101, 110, 100] = (true, 3) := by
  unfold xj_walk
  rw [if_neg (by decide)]
  rfl
theorem xj_w4 {c : Nat → Int32} {n : Nat} : xj_walk c (n + 1) [115, 105, 100, 101] = (true, 4) := by
  unfold xj_walk
  rw [if_neg (by decide)]
  rfl
theorem xj_w5 {c : Nat → Int32} {n : Nat} : xj_walk c (n + 1) [114, 111, 119] = (true, 3) := by
  unfold xj_walk
  rw [if_neg (by decide)]
  rfl
theorem xj_w6 {c : Nat → Int32} {n : Nat} : xj_walk c (n + 1) [116, 104, 105, 110] = (true, 4) := by
  unfold xj_walk
  rw [if_neg (by decide)]
  rfl
theorem xj_eq (c : Nat → Int32) : xj_walk c 6 [] = xj_tw c xs_byt 0 := by
  rw [xj_n0]
  by_cases h0_s : c 0 = 115
  · rw [if_pos (by rw [h0_s]; decide), h0_s]
    show xj_walk c 5 [115] = _
    rw [xj_n1]
    by_cases h1_i : c 1 = 105
    · rw [if_pos (by rw [h1_i]; decide), h1_i]
      show xj_walk c 4 [115, 105] = _
      rw [xj_n2]
      by_cases h2_z : c 2 = 122
      · rw [if_pos (by rw [h2_z]; decide), h2_z]
        show xj_walk c 3 [115, 105, 122] = _
        rw [xj_n3]
        by_cases h3_e : c 3 = 101
        · rw [if_pos (by rw [h3_e]; decide), h3_e]
          show xj_walk c 2 [115, 105, 122, 101] = _
          rw [xj_w0]
          simp [xj_tw, xj_pm, xs_byt, h0_s, h1_i, h2_z, h3_e]
        rw [if_neg (by simp [h3_e])]
        simp [xj_tw, xj_pm, xs_byt, h0_s, h1_i, h2_z, h3_e]
      by_cases h2_d : c 2 = 100
      · rw [if_pos (by rw [h2_d]; decide), h2_d]
        show xj_walk c 3 [115, 105, 100] = _
        rw [xj_n4]
        by_cases h3_e : c 3 = 101
        · rw [if_pos (by rw [h3_e]; decide), h3_e]
          show xj_walk c 2 [115, 105, 100, 101] = _
          rw [xj_w4]
          simp [xj_tw, xj_pm, xs_byt, h0_s, h1_i, h2_z, h2_d, h3_e]
        rw [if_neg (by simp [h3_e])]
        simp [xj_tw, xj_pm, xs_byt, h0_s, h1_i, h2_z, h2_d, h3_e]
      rw [if_neg (by simp [h2_z, h2_d])]
      simp [xj_tw, xj_pm, xs_byt, h0_s, h1_i, h2_z, h2_d]
    rw [if_neg (by simp [h1_i])]
    simp [xj_tw, xj_pm, xs_byt, h0_s, h1_i]
  by_cases h0_f : c 0 = 102
  · rw [if_pos (by rw [h0_f]; decide), h0_f]
    show xj_walk c 5 [102] = _
    rw [xj_n5]
    by_cases h1_o : c 1 = 111
    · rw [if_pos (by rw [h1_o]; decide), h1_o]
      show xj_walk c 4 [102, 111] = _
      rw [xj_n6]
      by_cases h2_r : c 2 = 114
      · rw [if_pos (by rw [h2_r]; decide), h2_r]
        show xj_walk c 3 [102, 111, 114] = _
        rw [xj_n7]
        by_cases h3_c : c 3 = 99
        · rw [if_pos (by rw [h3_c]; decide), h3_c]
          show xj_walk c 2 [102, 111, 114, 99] = _
          rw [xj_n8]
          by_cases h4_e : c 4 = 101
          · rw [if_pos (by rw [h4_e]; decide), h4_e]
            show xj_walk c 1 [102, 111, 114, 99, 101] = _
            rw [xj_w1]
            simp [xj_tw, xj_pm, xs_byt, h0_s, h0_f, h1_o, h2_r, h3_c, h4_e]
          rw [if_neg (by simp [h4_e])]
          simp [xj_tw, xj_pm, xs_byt, h0_s, h0_f, h1_o, h2_r, h3_c, h4_e]
        rw [if_neg (by simp [h3_c])]
        simp [xj_tw, xj_pm, xs_byt, h0_s, h0_f, h1_o, h2_r, h3_c]
      rw [if_neg (by simp [h2_r])]
      simp [xj_tw, xj_pm, xs_byt, h0_s, h0_f, h1_o, h2_r]
    rw [if_neg (by simp [h1_o])]
    simp [xj_tw, xj_pm, xs_byt, h0_s, h0_f, h1_o]
  by_cases h0_e : c 0 = 101
  · rw [if_pos (by rw [h0_e]; decide), h0_e]
    show xj_walk c 5 [101] = _
    rw [xj_n9]
    by_cases h1_d : c 1 = 100
    · rw [if_pos (by rw [h1_d]; decide), h1_d]
      show xj_walk c 4 [101, 100] = _
      rw [xj_n10]
      by_cases h2_g : c 2 = 103
      · rw [if_pos (by rw [h2_g]; decide), h2_g]
        show xj_walk c 3 [101, 100, 103] = _
        rw [xj_n11]
        by_cases h3_e : c 3 = 101
        · rw [if_pos (by rw [h3_e]; decide), h3_e]
          show xj_walk c 2 [101, 100, 103, 101] = _
          rw [xj_w2]
          simp [xj_tw, xj_pm, xs_byt, h0_s, h0_f, h0_e, h1_d, h2_g, h3_e]
        rw [if_neg (by simp [h3_e])]
        simp [xj_tw, xj_pm, xs_byt, h0_s, h0_f, h0_e, h1_d, h2_g, h3_e]
      rw [if_neg (by simp [h2_g])]
      simp [xj_tw, xj_pm, xs_byt, h0_s, h0_f, h0_e, h1_d, h2_g]
    by_cases h1_n : c 1 = 110
    · rw [if_pos (by rw [h1_n]; decide), h1_n]
      show xj_walk c 4 [101, 110] = _
      rw [xj_n12]
      by_cases h2_d : c 2 = 100
      · rw [if_pos (by rw [h2_d]; decide), h2_d]
        show xj_walk c 3 [101, 110, 100] = _
        rw [xj_w3]
        simp [xj_tw, xj_pm, xs_byt, h0_s, h0_f, h0_e, h1_d, h1_n, h2_d]
      rw [if_neg (by simp [h2_d])]
      simp [xj_tw, xj_pm, xs_byt, h0_s, h0_f, h0_e, h1_d, h1_n, h2_d]
    rw [if_neg (by simp [h1_d, h1_n])]
    simp [xj_tw, xj_pm, xs_byt, h0_s, h0_f, h0_e, h1_d, h1_n]
  by_cases h0_r : c 0 = 114
  · rw [if_pos (by rw [h0_r]; decide), h0_r]
    show xj_walk c 5 [114] = _
    rw [xj_n13]
    by_cases h1_o : c 1 = 111
    · rw [if_pos (by rw [h1_o]; decide), h1_o]
      show xj_walk c 4 [114, 111] = _
      rw [xj_n14]
      by_cases h2_w : c 2 = 119
      · rw [if_pos (by rw [h2_w]; decide), h2_w]
        show xj_walk c 3 [114, 111, 119] = _
        rw [xj_w5]
        simp [xj_tw, xj_pm, xs_byt, h0_s, h0_f, h0_e, h0_r, h1_o, h2_w]
      rw [if_neg (by simp [h2_w])]
      simp [xj_tw, xj_pm, xs_byt, h0_s, h0_f, h0_e, h0_r, h1_o, h2_w]
    rw [if_neg (by simp [h1_o])]
    simp [xj_tw, xj_pm, xs_byt, h0_s, h0_f, h0_e, h0_r, h1_o]
  by_cases h0_t : c 0 = 116
  · rw [if_pos (by rw [h0_t]; decide), h0_t]
    show xj_walk c 5 [116] = _
    rw [xj_n15]
    by_cases h1_h : c 1 = 104
    · rw [if_pos (by rw [h1_h]; decide), h1_h]
      show xj_walk c 4 [116, 104] = _
      rw [xj_n16]
      by_cases h2_i : c 2 = 105
      · rw [if_pos (by rw [h2_i]; decide), h2_i]
        show xj_walk c 3 [116, 104, 105] = _
        rw [xj_n17]
        by_cases h3_n : c 3 = 110
        · rw [if_pos (by rw [h3_n]; decide), h3_n]
          show xj_walk c 2 [116, 104, 105, 110] = _
          rw [xj_w6]
          simp [xj_tw, xj_pm, xs_byt, h0_s, h0_f, h0_e, h0_r, h0_t, h1_h, h2_i, h3_n]
        rw [if_neg (by simp [h3_n])]
        simp [xj_tw, xj_pm, xs_byt, h0_s, h0_f, h0_e, h0_r, h0_t, h1_h, h2_i, h3_n]
      rw [if_neg (by simp [h2_i])]
      simp [xj_tw, xj_pm, xs_byt, h0_s, h0_f, h0_e, h0_r, h0_t, h1_h, h2_i]
    rw [if_neg (by simp [h1_h])]
    simp [xj_tw, xj_pm, xs_byt, h0_s, h0_f, h0_e, h0_r, h0_t, h1_h]
  rw [if_neg (by simp [h0_s, h0_f, h0_e, h0_r, h0_t])]
  simp [xj_tw, xj_pm, xs_byt, h0_s, h0_f, h0_e, h0_r, h0_t]
