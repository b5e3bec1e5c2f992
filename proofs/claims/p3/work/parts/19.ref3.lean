theorem xn_0 {q : Int32} {k : Nat} (h : ∃ b : Nat, q = nI b ∧ b ≤ k) (hk : k < 2 ^ 30) : 0 ≤ q := by
  obtain ⟨b, rfl, h1⟩ := h
  exact nI_pos' (by omega)
theorem xn_00 {q : Int32} {n : Nat} (h : ∃ b : Nat, q = nI b ∧ b + n ≤ 210) : 0 ≤ q := by
  obtain ⟨b, rfl, h1⟩ := h
  exact nI_pos' (by omega)
theorem xn_d {po fa : Int32} {D : Bool} (hp : ∃ b : Nat, po = nI b ∧ b ≤ 200) (hfa : fa = (-1)) (c : gR_must_4 po fa (xb_bi D) = (-1)) : D = true := by
  cases D with
  | true => rfl
  | false =>
    exfalso
    obtain ⟨b, rfl, h1⟩ := hp
    rw [gR_must_4, if_pos hfa, if_pos (show xb_bi false = 0 from rfl)] at c
    have h2 : ¬ nI b = -1 := fun q => by
      have := congrArg Int32.toInt q
      rw [nI_toInt (by omega), show ((-1 : Int32)).toInt = -1 from by decide] at this
      omega
    rw [if_neg h2] at c
    exact h2 c
theorem xn_m {po fa : Int32} {D : Bool} (hfa : fa = (-1)) (hD : D = true) : gR_must_3 po fa (xb_bi D) = po + 1 := by
  rw [gR_must_3, if_pos hfa, hD, if_neg (show ¬ xb_bi true = 0 by decide), if_pos hfa]
theorem xn_1 {tf : Nat → Int32} {zs po fa : Int32} (hp : ∃ b : Nat, po = nI b ∧ b ≤ 200) (hs : zs ≤ 200) (hfa : fa = (-1)) (c : gR_must_4 po fa (xb_bi (fR_isDigit tf zs po)) = (-1)) : vp_in po 200 := by
  have hD := xn_d hp hfa c
  have h1 : ¬ zs ≤ po := fun q => by
    rw [fR_isDigit, fR_now, if_pos q, if_pos (by decide)] at hD
    cases hD
  exact xp_now (xn_0 hp (by decide)) hs h1
theorem xn_s {po fa : Int32} {D : Bool} (hp : ∃ b : Nat, po = nI b ∧ b ≤ 200) (hfa : fa = (-1)) (c : gR_must_4 po fa (xb_bi D) = (-1)) : ∃ b : Nat, gR_must_3 po fa (xb_bi D) = nI b ∧ b + 4 ≤ 210 := by
  rw [xn_m hfa (xn_d hp hfa c)]
  obtain ⟨b, rfl, h1⟩ := hp
  exact ⟨b + 1, nI_1 b, by omega⟩
theorem xn_t {q : Int32} {n : Nat} (h : ∃ b : Nat, q = nI b ∧ b + (n + 1) ≤ 210) : ∃ b : Nat, q + 1 = nI b ∧ b + n ≤ 210 := by
  obtain ⟨b, rfl, h1⟩ := h
  exact ⟨b + 1, nI_1 b, by omega⟩
def xv_I (n : Nat) (fr0 pq fb : Int32) : Prop := ∃ a b : Nat, fr0 = nI a ∧ pq = nI b ∧ a ≤ b ∧ b ≤ a + 5 ∧ b ≤ 200 ∧ ((fb = -1 ∧ a + 7 ≤ b + n) ∨ (¬ fb = -1 ∧ 1 ≤ n))
theorem xv_z {fr0 pq fb : Int32} {G : Prop} (h : xv_I 0 fr0 pq fb) : G := by
  obtain ⟨a, b, -, -, h1, h2, h3, h4⟩ := h
  exfalso
  rcases h4 with ⟨-, h4⟩ | ⟨-, h4⟩ <;> omega
theorem xv_i {po fa : Int32} (h : ∃ b : Nat, po = nI b ∧ b ≤ 200) : xv_I 7 po po fa := by
  obtain ⟨b, rfl, h1⟩ := h
  by_cases q : fa = -1
  · exact ⟨b, b, rfl, rfl, by omega, by omega, h1, Or.inl ⟨q, by omega⟩⟩
  · exact ⟨b, b, rfl, rfl, by omega, by omega, h1, Or.inr ⟨q, by omega⟩⟩
theorem xv_fp {n : Nat} {fr0 pq fb : Int32} (h : xv_I n fr0 pq fb) : ∃ a b : Nat, fr0 = nI a ∧ pq = nI b ∧ a ≤ b ∧ b ≤ a + 5 ∧ b ≤ 200 := by
  obtain ⟨a, b, h1, h2, h3, h4, h5, -⟩ := h
  exact ⟨a, b, h1, h2, h3, h4, h5⟩
theorem xv_0 {n : Nat} {fr0 pq fb : Int32} (h : xv_I n fr0 pq fb) : 0 ≤ pq := by
  obtain ⟨a, b, -, rfl, h3, h4, h5, -⟩ := h
  exact nI_pos' (by omega)
theorem xv_k {tf lf : Nat → Int32} {po wo fr0 ch : Int32} : ∀ (n : Nat) (sa wk : Int32), kR_may_6a tf lf po wo fr0 ch n sa wk = true → ¬ 5 ≤ po - fr0 := by
  intro n
  induction n with
  | zero => intro sa wk h; cases h
  | succ n ih =>
    intro sa wk h
    unfold kR_may_6a at h
    repeat' split at h
    all_goals first | assumption | cases h | exact ih _ _ h
theorem xv_m {tf lf : Nat → Int32} {zs pq wo fr0 : Int32} (h1 : ¬ fR_now tf zs pq = -1) (h2 : fR_may tf lf pq wo fr0 (fR_now tf zs pq) = true) : ¬ zs ≤ pq ∧ ¬ 5 ≤ pq - fr0 := by
  refine ⟨fun q => h1 ?_, xv_k _ _ _ h2⟩
  rw [fR_now, if_pos q]
theorem xv_s {n : Nat} {fr0 pq fb so zs : Int32} (h : xv_I (n + 1) fr0 pq fb) (hs : zs ≤ 200) (c : fb = -1) (hso : ¬ so = 0 → ¬ zs ≤ pq ∧ ¬ 5 ≤ pq - fr0) : xv_I n fr0 (gR_must_3 pq fb so) (gR_must_4 pq fb so) := by
  obtain ⟨a, b, rfl, rfl, h1, h2, h3, h4⟩ := h
  have h5 : a + 7 ≤ b + (n + 1) := by
    rcases h4 with ⟨-, h4⟩ | ⟨h4, -⟩
    · exact h4
    · exact absurd c h4
  have hb : ¬ nI b = -1 := fun q => by
    have := congrArg Int32.toInt q
    rw [nI_toInt (by omega), show ((-1 : Int32)).toInt = -1 from by decide] at this
    omega
  by_cases q : so = 0
  · rw [gR_must_3, gR_must_4, if_pos c, if_pos q, if_neg hb, if_pos c, if_pos q, if_neg hb]
    exact ⟨a, b, rfl, rfl, h1, h2, h3, Or.inr ⟨hb, by omega⟩⟩
  · rw [gR_must_3, gR_must_4, if_pos c, if_neg q, if_pos c, if_pos c, if_neg q, if_pos c]
    obtain ⟨g1, g2⟩ := hso q
    rw [Int32.le_iff_toInt_le, nI_toInt (by omega)] at g1
    rw [Int32.le_iff_toInt_le, show ((200 : Int32)).toInt = 200 from by decide] at hs
    rw [pk_sub h1, show (5 : Int32) = nI 5 from rfl, nI_leI (by omega) (by omega)] at g2
    exact ⟨a, b + 1, rfl, nI_1 b, by omega, by omega, by omega, Or.inl ⟨c, by omega⟩⟩
/-- a counter that goes on by steps of ten at least -/
def xl_t (n : Nat) (w : Int32) : Prop := ∃ j : Nat, w = nI j ∧ j ≤ 2000 ∧ 2010 ≤ j + 10 * n
theorem xl_t0 {w : Int32} {G : Prop} (h : xl_t 0 w) : G := by
  obtain ⟨j, -, h1, h2⟩ := h
  omega
theorem xl_ts {n : Nat} {wi w st : Int32} (h : xl_t (n + 1) wi) (c : ¬ w < wi) (hw : fR_isIn w.toInt64 0 1000 = true) (hs : fR_isIn st.toInt64 10 1000 = true) : xl_t n (wi + st) := by
  obtain ⟨j, rfl, h1, h2⟩ := h
  rw [xp_isIn] at hw hs
  simp only [Int64.le_iff_toInt_le, Int32.toInt_toInt64, show ((0 : Int64)).toInt = 0 from by decide, show ((1000 : Int64)).toInt = 1000 from by decide, show ((10 : Int64)).toInt = 10 from by decide] at hw hs
  rw [Int32.lt_iff_toInt_lt, nI_toInt (by omega)] at c
  obtain ⟨k, hk, rfl⟩ := nI_of (x := st) (by rw [Int32.lt_iff_toInt_lt, show ((0 : Int32)).toInt = 0 from by decide]; omega)
  rw [nI_toInt hk] at hs
  exact ⟨j + k, nI_add j k, by omega, by omega⟩
theorem xq_1 {rf : Nat → Int32} (hr : ∀ j, j < 28 → 1 ≤ (rf j).toInt ∧ (rf j).toInt ≤ 9999) {kind : Int32} (i : Nat) (hi : i < 7) (h : fR_isFour kind = true) : ¬ fR_space rf kind (nI i) = 0 := by
  obtain ⟨j, hj, rfl⟩ := xp_four h
  have e1 : (7 * nI j).toNatClampNeg = 7 * j := by
    rw [show (7 : Int32) = nI 7 from rfl, pk_mul, nI_clamp (by omega)]
  have e2 : (7 * nI j + nI i).toNatClampNeg = 7 * j + i := by
    rw [show (7 : Int32) = nI 7 from rfl, pk_mul, nI_add, nI_clamp (by omega)]
  have h1 := hr (7 * j) (by omega)
  have h2 := hr (7 * j + i) (by omega)
  intro q
  unfold fR_space at q
  rw [e1, e2] at q
  have q2 := congrArg Int64.toInt q
  rw [Int64.toInt_mul, Int32.toInt_toInt64, Int32.toInt_toInt64] at q2
  have z : (0 : Int64).toInt = 0 := by decide
  rw [z] at q2
  have hp : 1 ≤ (rf (7 * j + i)).toInt * (rf (7 * j)).toInt := by
    have := Int.mul_le_mul h2.1 h1.1 (by decide) (by omega)
    simpa using this
  have hq : (rf (7 * j + i)).toInt * (rf (7 * j)).toInt ≤ 99980001 := by
    have := Int.mul_le_mul h2.2 h1.2 (by omega) (by decide)
    simpa using this
  rw [Int.bmod_eq_of_le (by omega) (by omega)] at q2
  omega
def gR_pattern (rf : Nat → Int32) (pf : Nat → Int32) (pk : Int32) (pm : Int32) (co : Int32) (kind : Int32) (w : Int32) (h : Int32) (n : Int32) : Bool := if (fR_isIn w.toInt64 (1) (100000)) = true then (if (fR_isIn h.toInt64 (1) (100000)) = true then (if (fR_isIn n.toInt64 (1) (100)) = true then (if (fR_isFour kind) = true then (if n.toInt64 ≤ ((fR_fits w.toInt64 (fR_space rf kind (3)) (fR_space rf kind (4))) * (fR_fits h.toInt64 (fR_space rf kind (2)) (fR_space rf kind (5)))) then (true) else (false)) else (false)) else (if (fR_isFour kind) = true then (false) else (false))) else (if (fR_isFour kind) = true then (false) else (false))) else (if (fR_isFour kind) = true then (false) else (false))
def gR_pattern_0 (rf : Nat → Int32) (pf : Nat → Int32) (pk : Int32) (pm : Int32) (co : Int32) (kind : Int32) (w : Int32) (h : Int32) (n : Int32) : Int32 := if (fR_isIn w.toInt64 (1) (100000)) = true then (if (fR_isIn h.toInt64 (1) (100000)) = true then (if (fR_isIn n.toInt64 (1) (100)) = true then (if (fR_isFour kind) = true then (if n.toInt64 ≤ ((fR_fits w.toInt64 (fR_space rf kind (3)) (fR_space rf kind (4))) * (fR_fits h.toInt64 (fR_space rf kind (2)) (fR_space rf kind (5)))) then ((0)) else ((0))) else ((1))) else (if (fR_isFour kind) = true then ((2)) else ((1)))) else (if (fR_isFour kind) = true then ((2)) else ((1)))) else (if (fR_isFour kind) = true then ((2)) else ((1)))
def gR_pattern_10 (rf : Nat → Int32) (pf : Nat → Int32) (pk : Int32) (pm : Int32) (co : Int32) (kind : Int32) (w : Int32) (h : Int32) (n : Int32) : Int32 := if (fR_isIn w.toInt64 (1) (100000)) = true then (if (fR_isIn h.toInt64 (1) (100000)) = true then (if (fR_isIn n.toInt64 (1) (100)) = true then (if (fR_isFour kind) = true then (if n.toInt64 ≤ ((fR_fits w.toInt64 (fR_space rf kind (3)) (fR_space rf kind (4))) * (fR_fits h.toInt64 (fR_space rf kind (2)) (fR_space rf kind (5)))) then (kind) else (pk)) else (pk)) else (if (fR_isFour kind) = true then (pk) else (pk))) else (if (fR_isFour kind) = true then (pk) else (pk))) else (if (fR_isFour kind) = true then (pk) else (pk))
def gR_pattern_11 (rf : Nat → Int32) (pf : Nat → Int32) (pk : Int32) (pm : Int32) (co : Int32) (kind : Int32) (w : Int32) (h : Int32) (n : Int32) : Int32 := if (fR_isIn w.toInt64 (1) (100000)) = true then (if (fR_isIn h.toInt64 (1) (100000)) = true then (if (fR_isIn n.toInt64 (1) (100)) = true then (if (fR_isFour kind) = true then (if n.toInt64 ≤ ((fR_fits w.toInt64 (fR_space rf kind (3)) (fR_space rf kind (4))) * (fR_fits h.toInt64 (fR_space rf kind (2)) (fR_space rf kind (5)))) then (n) else (pm)) else (pm)) else (if (fR_isFour kind) = true then (pm) else (pm))) else (if (fR_isFour kind) = true then (pm) else (pm))) else (if (fR_isFour kind) = true then (pm) else (pm))
def gR_pattern_12 (rf : Nat → Int32) (pf : Nat → Int32) (pk : Int32) (pm : Int32) (co : Int32) (kind : Int32) (w : Int32) (h : Int32) (n : Int32) : Int32 := if (fR_isIn w.toInt64 (1) (100000)) = true then (if (fR_isIn h.toInt64 (1) (100000)) = true then (if (fR_isIn n.toInt64 (1) (100)) = true then (if (fR_isFour kind) = true then (if n.toInt64 ≤ ((fR_fits w.toInt64 (fR_space rf kind (3)) (fR_space rf kind (4))) * (fR_fits h.toInt64 (fR_space rf kind (2)) (fR_space rf kind (5)))) then ((fR_fits w.toInt64 (fR_space rf kind (3)) (fR_space rf kind (4))).toInt32) else (co)) else (co)) else (if (fR_isFour kind) = true then (co) else (co))) else (if (fR_isFour kind) = true then (co) else (co))) else (if (fR_isFour kind) = true then (co) else (co))
def gR_pattern_f (rf : Nat → Int32) (pf : Nat → Int32) (pk : Int32) (pm : Int32) (co : Int32) (kind : Int32) (w : Int32) (h : Int32) (n : Int32) : Nat → Int32 := if (fR_isIn w.toInt64 (1) (100000)) = true then (if (fR_isIn h.toInt64 (1) (100000)) = true then (if (fR_isIn n.toInt64 (1) (100)) = true then (if (fR_isFour kind) = true then (if n.toInt64 ≤ ((fR_fits w.toInt64 (fR_space rf kind (3)) (fR_space rf kind (4))) * (fR_fits h.toInt64 (fR_space rf kind (2)) (fR_space rf kind (5)))) then (upd (upd (upd (upd pf (0 : Int32).toNatClampNeg ((fR_space rf kind (3)).toInt32)) (1 : Int32).toNatClampNeg ((fR_space rf kind (4)).toInt32)) (2 : Int32).toNatClampNeg ((fR_space rf kind (2)).toInt32)) (3 : Int32).toNatClampNeg ((fR_space rf kind (5)).toInt32)) else (pf)) else (pf)) else (if (fR_isFour kind) = true then (pf) else (pf))) else (if (fR_isFour kind) = true then (pf) else (pf))) else (if (fR_isFour kind) = true then (pf) else (pf))
set_option maxHeartbeats 4000000 in
set_option maxRecDepth 100000 in
theorem cR_pattern (l : Launch) {s0 : State} {dC : Nat → ClassId} {dI : Nat → Nat → Nat} {cI cC cL cO : ClassId} (E : xb_Env l s0 dC dI (xtys cI cC cL cO)) (sz : Nat) (h0 : Nat) (ra : Nat) (pa : Nat) (th : Int32) (ta : Nat) (zs : Int32) (po : Int32) (fa : Int32) (da : Nat) (la : Nat) (we : Int64) (le : Int64) (pk : Int32) (pm : Int32) (co : Int32) (pl : Int32) (xa : Nat) (ya : Nat) (mb : Int32) (ea : Nat) (wa : Nat) (rf : Nat → Int32) (pf : Nat → Int32) (kind : Int32) (w : Int32) (h : Int32) (n : Int32) (hr9 : ∀ j, j < 28 → 1 ≤ (rf j).toInt ∧ (rf j).toInt ≤ 9999) : Met l yR_pattern [.code yR_pattern bR_pattern 10 (some (.boolean))] ({ frames := 1, cells := 0, slots := 0, locals := 27 }) (va_Pc [.ref h0, .int kind, .int w, .int h, .int n] (fun U => xb_At s0 U ∧ U.heap.size = sz ∧ va_P (dC, dI) classes [(h0, .inr (3, [.int th, .ref ta, .int zs, .int po, .int fa, .ref da, .ref ra, .ref la, .long we, .long le, .int pk, .int pm, .int co, .ref pa, .int pl, .ref xa, .ref ya, .int mb, .ref ea, .ref wa])), (ra, .inl (cI, 28, .inl rf)), (pa, .inl (cI, 4, .inl pf))] U.heap ∧ va_D (fun q => s0.heap.size ≤ q) [(h0, .inr (3, [.int th, .ref ta, .int zs, .int po, .int fa, .ref da, .ref ra, .ref la, .long we, .long le, .int pk, .int pm, .int co, .ref pa, .int pl, .ref xa, .ref ya, .int mb, .ref ea, .ref wa])), (ra, .inl (cI, 28, .inl rf)), (pa, .inl (cI, 4, .inl pf))])) (xb_W (dC, dI) (fun v9 w9 => v9 = some (.int (xb_bi (gR_pattern rf pf pk pm co kind w h n))) ∧ w9 = [(h0, .inr (3, [.int (gR_pattern_0 rf pf pk pm co kind w h n), .ref ta, .int zs, .int po, .int fa, .ref da, .ref ra, .ref la, .long we, .long le, .int (gR_pattern_10 rf pf pk pm co kind w h n), .int (gR_pattern_11 rf pf pk pm co kind w h n), .int (gR_pattern_12 rf pf pk pm co kind w h n), .ref pa, .int pl, .ref xa, .ref ya, .int mb, .ref ea, .ref wa])), (ra, .inl (cI, 28, .inl rf)), (pa, .inl (cI, 4, .inl (gR_pattern_f rf pf pk pm co kind w h n)))]) (va_A [(h0, .inr (3, [.int th, .ref ta, .int zs, .int po, .int fa, .ref da, .ref ra, .ref la, .long we, .long le, .int pk, .int pm, .int co, .ref pa, .int pl, .ref xa, .ref ya, .int mb, .ref ea, .ref wa])), (ra, .inl (cI, 28, .inl rf)), (pa, .inl (cI, 4, .inl pf))] sz)) 0 0 (va_A [(h0, .inr (3, [.int th, .ref ta, .int zs, .int po, .int fa, .ref da, .ref ra, .ref la, .long we, .long le, .int pk, .int pm, .int co, .ref pa, .int pl, .ref xa, .ref ya, .int mb, .ref ea, .ref wa])), (ra, .inl (cI, 28, .inl rf)), (pa, .inl (cI, 4, .inl pf))] sz) := by
  refine Met.ofW (cc := bR_pattern) (maxL := 10) (ret := (some (.boolean))) (by decide) rfl ?_
  intro p e s m args below meth c s₁ B hml hv
  obtain ⟨rfl, hAt, hsz, hP, hD0⟩ := hv
  have hx := B.exec
  have hb := B.bytes
  have hr := B.returns
  have hts := xb_hts E hAt ([.ref h0, .int kind, .int w, .int h, .int n] : List Value).toArray
  have hown : s.vm.findClass "NailRulesModel" = some m.cls := findClass_of_methodNamed B.named
  have hlocks := B.notSynchronized
  have hK := xb_K E hAt
  subst hsz
  have hA0 := xb_A0 hAt hD0
  have hD := hD0.self (sz := s.heap.size)
  generalize hAe : va_A [(h0, .inr (3, [.int th, .ref ta, .int zs, .int po, .int fa, .ref da, .ref ra, .ref la, .long we, .long le, .int pk, .int pm, .int co, .ref pa, .int pl, .ref xa, .ref ya, .int mb, .ref ea, .ref wa])), (ra, .inl (cI, 28, .inl rf)), (pa, .inl (cI, 4, .inl pf))] s.heap.size = A at hD hA0 ⊢
  have hA : ∀ q : Nat, s.heap.size ≤ q → A q := fun q h => by rw [← hAe]; exact Or.inr h
  have hS : va_S A s.heap s.heap [] := va_S.rf
  have hl := lv_entry ([.ref h0, .int kind, .int w, .int h, .int n]) (n := 10) (Nat.le_of_ble_eq_true rfl)
  rw [lg_entry_eq]
  generalize (lg_sl ([.ref h0, .int kind, .int w, .int h, .int n]) ++ List.replicate (10 - (lg_sl ([.ref h0, .int kind, .int w, .int h, .int n])).length) Slot.unset).toArray = ls at hl ⊢
  have hl : lv_has ls 10 [(0, .ref h0), (1, .int kind), (2, .int w), (3, .int h), (4, .int n)] := hl
  refine lv_iload_n hx hb dR_pattern_0 rfl (lv_at hl 2 rfl) ?_
  refine lv_i2l hx hb dR_pattern_1 rfl ?_
  refine lv_lconst (v := 1) hx hb dR_pattern_2 (by decide) ?_
  refine lv_ldc2 (v := 100000) hx hb hown (hts _ xk_791) dR_pattern_3 ?_
  refine xb_rd (W.runS (As := [.long w.toInt64, .long 1, .long 100000]) (rest := []) ⟨hx, hb, hml, hown, hts⟩ (cR_isIn l E w.toInt64 1 100000) (cwS 3 hts (xb_gi (List.forall_mem_cons.mpr ⟨xk_754, List.forall_mem_cons.mpr ⟨xk_755, List.forall_mem_cons.mpr ⟨xk_45, List.forall_mem_cons.mpr ⟨xk_756, fun _ h => absurd h List.not_mem_nil⟩⟩⟩⟩)) rfl rfl rfl (by decide +kernel) ⟨Nat.le_of_ble_eq_true rfl, Nat.le_of_ble_eq_true rfl⟩) ⟨fun _ _ _ _ q => q, fun U hU hW => ⟨rfl, xb_atS hAt hS hA0 hU hW, fun k q h => by simp at h⟩⟩ rfl rfl hl.1 rfl (lv_room (Nat.le_of_ble_eq_true rfl)) dR_pattern_6 ⟨Nat.zero_le _, Nat.zero_le _⟩) ?_
  refine lv_if_eq (tgt := 41) hx hb dR_pattern_9 (by decide) (fun c_1 => ?_) (fun c_1 => ?_)
  · have c_1 := xb_bi_f.mp c_1
    refine lv_iconst (v := 0) hx hb dR_pattern_41 (by decide) ?_
    refine lv_istore (lv' := [(5, .int 0), (0, .ref h0), (1, .int kind), (2, .int w), (3, .int h), (4, .int n)]) hx hb dR_pattern_42 hl (by decide) rfl (fun ls hl => ?_)
    refine lv_aload_n hx hb dR_pattern_44 rfl (lv_at hl 1 rfl) ?_
    refine lv_iload_n hx hb dR_pattern_45 rfl (lv_at hl 2 rfl) ?_
    refine xb_rd (W.runS (As := [.int kind]) (rest := [.ref h0]) ⟨hx, hb, hml, hown, hts⟩ (cR_isFour l E kind) (cwS 1 hts (xb_gi (List.forall_mem_cons.mpr ⟨xk_750, List.forall_mem_cons.mpr ⟨xk_751, List.forall_mem_cons.mpr ⟨xk_45, List.forall_mem_cons.mpr ⟨xk_752, fun _ h => absurd h List.not_mem_nil⟩⟩⟩⟩)) rfl rfl rfl (by decide +kernel) ⟨Nat.le_of_ble_eq_true rfl, Nat.le_of_ble_eq_true rfl⟩) ⟨fun _ _ _ _ q => q, fun U hU hW => ⟨rfl, xb_atS hAt hS hA0 hU hW, fun k q h => by simp at h⟩⟩ rfl rfl hl.1 rfl (lv_room (Nat.le_of_ble_eq_true rfl)) dR_pattern_46 ⟨Nat.zero_le _, Nat.zero_le _⟩) ?_
    refine lv_if_ne (tgt := 56) hx hb dR_pattern_49 (by decide) (fun c_2 => ?_) (fun c_2 => ?_)
    · have c_2 := xb_bi_t.mp c_2
      refine lv_iload hx hb dR_pattern_56 (lv_at hl 0 rfl) ?_
      refine lv_if_eq (tgt := 65) hx hb dR_pattern_58 (by decide) (fun c_3 => ?_) (fun c_3 => ?_)
      · refine lv_iconst (v := 2) hx hb dR_pattern_65 (by decide) ?_
        refine va_put (D := (dC, dI)) (ci := 3) (v := .int 2) (ty := .int) (C := xR_R) (T := xF_R) (N := 20) hx hb hts xi_R xt_R xt_R_ok xn_R hown hK hP hD hS 0 rfl rfl 0 (by decide) (hts _ xk_646) (fun _ h9 => h9) rfl (by decide +kernel) rfl rfl (Nat.le_of_ble_eq_true rfl) dR_pattern_66 (fun H locs hP hD hS => ?_)
        have hP : va_P (dC, dI) classes [(h0, .inr (3, [.int 2, .ref ta, .int zs, .int po, .int fa, .ref da, .ref ra, .ref la, .long we, .long le, .int pk, .int pm, .int co, .ref pa, .int pl, .ref xa, .ref ya, .int mb, .ref ea, .ref wa])), (ra, .inl (cI, 28, .inl rf)), (pa, .inl (cI, 4, .inl pf))] H := hP
        have hD : va_D A [(h0, .inr (3, [.int 2, .ref ta, .int zs, .int po, .int fa, .ref da, .ref ra, .ref la, .long we, .long le, .int pk, .int pm, .int co, .ref pa, .int pl, .ref xa, .ref ya, .int mb, .ref ea, .ref wa])), (ra, .inl (cI, 28, .inl rf)), (pa, .inl (cI, 4, .inl pf))] := hD
        refine lv_aload_n hx hb dR_pattern_69 rfl (lv_at hl 1 rfl) ?_
        refine va_get (D := (dC, dI)) (ci := 3) (v := .int 2) (C := xR_R) (T := xF_R) (N := 20) hx hb hts xi_R hown hK hP 0 rfl rfl 0 (by decide) (hts _ xk_646) (fun _ h9 => h9) rfl dR_pattern_70 ?_
        refine lv_if_le (tgt := 78) hx hb dR_pattern_73 (by decide) (fun c_4 => ?_) (fun c_4 => ?_)
        · exact absurd c_4 (by decide)
        · refine lv_iconst (v := 0) hx hb dR_pattern_76 (by decide) ?_
          have e_0 : gR_pattern rf pf pk pm co kind w h n = false := (if_neg c_1).trans ((if_pos c_2).trans (rfl))
          have e_1 : gR_pattern_0 rf pf pk pm co kind w h n = (2 : Int32) := (if_neg c_1).trans ((if_pos c_2).trans (rfl))
          have e_2 : gR_pattern_10 rf pf pk pm co kind w h n = pk := (if_neg c_1).trans ((if_pos c_2).trans (rfl))
          have e_3 : gR_pattern_11 rf pf pk pm co kind w h n = pm := (if_neg c_1).trans ((if_pos c_2).trans (rfl))
          have e_4 : gR_pattern_12 rf pf pk pm co kind w h n = co := (if_neg c_1).trans ((if_pos c_2).trans (rfl))
          have e_5 : gR_pattern_f rf pf pk pm co kind w h n = pf := (if_neg c_1).trans ((if_pos c_2).trans (rfl))
          have hP9 := hP.sub (ws' := [(h0, .inr (3, [.int 2, .ref ta, .int zs, .int po, .int fa, .ref da, .ref ra, .ref la, .long we, .long le, .int pk, .int pm, .int co, .ref pa, .int pl, .ref xa, .ref ya, .int mb, .ref ea, .ref wa])), (ra, .inl (cI, 28, .inl rf)), (pa, .inl (cI, 4, .inl pf))]) [0, 1, 2] rfl
          have hD9 := hD.sub (ws' := [(h0, .inr (3, [.int 2, .ref ta, .int zs, .int po, .int fa, .ref da, .ref ra, .ref la, .long we, .long le, .int pk, .int pm, .int co, .ref pa, .int pl, .ref xa, .ref ya, .int mb, .ref ea, .ref wa])), (ra, .inl (cI, 28, .inl rf)), (pa, .inl (cI, 4, .inl pf))]) [0, 1, 2] (by decide) rfl
          exact W.zret (v := 0) hx hb hr (by decide) (fun t ht hW => ⟨_, _, rfl, ⟨by first | rfl | (simp only [e_0, e_1, e_2, e_3, e_4, e_5]; try rfl), by first | rfl | (simp only [e_0, e_1, e_2, e_3, e_4, e_5]; try rfl)⟩, by rw [ht]; exact hP9, hD9, hS.F ht⟩) hS.2.2 dR_pattern_77
      · exact absurd c_3 (by decide)
    · have c_2 := xb_bi_f.mp c_2
      refine lv_iconst (v := 1) hx hb dR_pattern_52 (by decide) ?_
      refine lv_goto (tgt := 66) hx hb dR_pattern_53 (by decide) ?_
      refine va_put (D := (dC, dI)) (ci := 3) (v := .int 1) (ty := .int) (C := xR_R) (T := xF_R) (N := 20) hx hb hts xi_R xt_R xt_R_ok xn_R hown hK hP hD hS 0 rfl rfl 0 (by decide) (hts _ xk_646) (fun _ h9 => h9) rfl (by decide +kernel) rfl rfl (Nat.le_of_ble_eq_true rfl) dR_pattern_66 (fun H locs hP hD hS => ?_)
      have hP : va_P (dC, dI) classes [(h0, .inr (3, [.int 1, .ref ta, .int zs, .int po, .int fa, .ref da, .ref ra, .ref la, .long we, .long le, .int pk, .int pm, .int co, .ref pa, .int pl, .ref xa, .ref ya, .int mb, .ref ea, .ref wa])), (ra, .inl (cI, 28, .inl rf)), (pa, .inl (cI, 4, .inl pf))] H := hP
      have hD : va_D A [(h0, .inr (3, [.int 1, .ref ta, .int zs, .int po, .int fa, .ref da, .ref ra, .ref la, .long we, .long le, .int pk, .int pm, .int co, .ref pa, .int pl, .ref xa, .ref ya, .int mb, .ref ea, .ref wa])), (ra, .inl (cI, 28, .inl rf)), (pa, .inl (cI, 4, .inl pf))] := hD
      refine lv_aload_n hx hb dR_pattern_69 rfl (lv_at hl 1 rfl) ?_
      refine va_get (D := (dC, dI)) (ci := 3) (v := .int 1) (C := xR_R) (T := xF_R) (N := 20) hx hb hts xi_R hown hK hP 0 rfl rfl 0 (by decide) (hts _ xk_646) (fun _ h9 => h9) rfl dR_pattern_70 ?_
      refine lv_if_le (tgt := 78) hx hb dR_pattern_73 (by decide) (fun c_5 => ?_) (fun c_5 => ?_)
      · exact absurd c_5 (by decide)
      · refine lv_iconst (v := 0) hx hb dR_pattern_76 (by decide) ?_
        have e_0 : gR_pattern rf pf pk pm co kind w h n = false := (if_neg c_1).trans ((if_neg c_2).trans (rfl))
        have e_1 : gR_pattern_0 rf pf pk pm co kind w h n = (1 : Int32) := (if_neg c_1).trans ((if_neg c_2).trans (rfl))
        have e_2 : gR_pattern_10 rf pf pk pm co kind w h n = pk := (if_neg c_1).trans ((if_neg c_2).trans (rfl))
        have e_3 : gR_pattern_11 rf pf pk pm co kind w h n = pm := (if_neg c_1).trans ((if_neg c_2).trans (rfl))
        have e_4 : gR_pattern_12 rf pf pk pm co kind w h n = co := (if_neg c_1).trans ((if_neg c_2).trans (rfl))
        have e_5 : gR_pattern_f rf pf pk pm co kind w h n = pf := (if_neg c_1).trans ((if_neg c_2).trans (rfl))
        have hP9 := hP.sub (ws' := [(h0, .inr (3, [.int 1, .ref ta, .int zs, .int po, .int fa, .ref da, .ref ra, .ref la, .long we, .long le, .int pk, .int pm, .int co, .ref pa, .int pl, .ref xa, .ref ya, .int mb, .ref ea, .ref wa])), (ra, .inl (cI, 28, .inl rf)), (pa, .inl (cI, 4, .inl pf))]) [0, 1, 2] rfl
        have hD9 := hD.sub (ws' := [(h0, .inr (3, [.int 1, .ref ta, .int zs, .int po, .int fa, .ref da, .ref ra, .ref la, .long we, .long le, .int pk, .int pm, .int co, .ref pa, .int pl, .ref xa, .ref ya, .int mb, .ref ea, .ref wa])), (ra, .inl (cI, 28, .inl rf)), (pa, .inl (cI, 4, .inl pf))]) [0, 1, 2] (by decide) rfl
        exact W.zret (v := 0) hx hb hr (by decide) (fun t ht hW => ⟨_, _, rfl, ⟨by first | rfl | (simp only [e_0, e_1, e_2, e_3, e_4, e_5]; try rfl), by first | rfl | (simp only [e_0, e_1, e_2, e_3, e_4, e_5]; try rfl)⟩, by rw [ht]; exact hP9, hD9, hS.F ht⟩) hS.2.2 dR_pattern_77
  · have c_1 := xb_bi_t.mp c_1
    refine lv_iload_n hx hb dR_pattern_12 rfl (lv_at hl 3 rfl) ?_
    refine lv_i2l hx hb dR_pattern_13 rfl ?_
    refine lv_lconst (v := 1) hx hb dR_pattern_14 (by decide) ?_
    refine lv_ldc2 (v := 100000) hx hb hown (hts _ xk_791) dR_pattern_15 ?_
    refine xb_rd (W.runS (As := [.long h.toInt64, .long 1, .long 100000]) (rest := []) ⟨hx, hb, hml, hown, hts⟩ (cR_isIn l E h.toInt64 1 100000) (cwS 3 hts (xb_gi (List.forall_mem_cons.mpr ⟨xk_754, List.forall_mem_cons.mpr ⟨xk_755, List.forall_mem_cons.mpr ⟨xk_45, List.forall_mem_cons.mpr ⟨xk_756, fun _ h => absurd h List.not_mem_nil⟩⟩⟩⟩)) rfl rfl rfl (by decide +kernel) ⟨Nat.le_of_ble_eq_true rfl, Nat.le_of_ble_eq_true rfl⟩) ⟨fun _ _ _ _ q => q, fun U hU hW => ⟨rfl, xb_atS hAt hS hA0 hU hW, fun k q h => by simp at h⟩⟩ rfl rfl hl.1 rfl (lv_room (Nat.le_of_ble_eq_true rfl)) dR_pattern_18 ⟨Nat.zero_le _, Nat.zero_le _⟩) ?_
    refine lv_if_eq (tgt := 41) hx hb dR_pattern_21 (by decide) (fun c_6 => ?_) (fun c_6 => ?_)
    · have c_6 := xb_bi_f.mp c_6
      refine lv_iconst (v := 0) hx hb dR_pattern_41 (by decide) ?_
      refine lv_istore (lv' := [(5, .int 0), (0, .ref h0), (1, .int kind), (2, .int w), (3, .int h), (4, .int n)]) hx hb dR_pattern_42 hl (by decide) rfl (fun ls hl => ?_)
      refine lv_aload_n hx hb dR_pattern_44 rfl (lv_at hl 1 rfl) ?_
      refine lv_iload_n hx hb dR_pattern_45 rfl (lv_at hl 2 rfl) ?_
      refine xb_rd (W.runS (As := [.int kind]) (rest := [.ref h0]) ⟨hx, hb, hml, hown, hts⟩ (cR_isFour l E kind) (cwS 1 hts (xb_gi (List.forall_mem_cons.mpr ⟨xk_750, List.forall_mem_cons.mpr ⟨xk_751, List.forall_mem_cons.mpr ⟨xk_45, List.forall_mem_cons.mpr ⟨xk_752, fun _ h => absurd h List.not_mem_nil⟩⟩⟩⟩)) rfl rfl rfl (by decide +kernel) ⟨Nat.le_of_ble_eq_true rfl, Nat.le_of_ble_eq_true rfl⟩) ⟨fun _ _ _ _ q => q, fun U hU hW => ⟨rfl, xb_atS hAt hS hA0 hU hW, fun k q h => by simp at h⟩⟩ rfl rfl hl.1 rfl (lv_room (Nat.le_of_ble_eq_true rfl)) dR_pattern_46 ⟨Nat.zero_le _, Nat.zero_le _⟩) ?_
      refine lv_if_ne (tgt := 56) hx hb dR_pattern_49 (by decide) (fun c_7 => ?_) (fun c_7 => ?_)
      · have c_7 := xb_bi_t.mp c_7
        refine lv_iload hx hb dR_pattern_56 (lv_at hl 0 rfl) ?_
        refine lv_if_eq (tgt := 65) hx hb dR_pattern_58 (by decide) (fun c_8 => ?_) (fun c_8 => ?_)
        · refine lv_iconst (v := 2) hx hb dR_pattern_65 (by decide) ?_
          refine va_put (D := (dC, dI)) (ci := 3) (v := .int 2) (ty := .int) (C := xR_R) (T := xF_R) (N := 20) hx hb hts xi_R xt_R xt_R_ok xn_R hown hK hP hD hS 0 rfl rfl 0 (by decide) (hts _ xk_646) (fun _ h9 => h9) rfl (by decide +kernel) rfl rfl (Nat.le_of_ble_eq_true rfl) dR_pattern_66 (fun H locs hP hD hS => ?_)
          have hP : va_P (dC, dI) classes [(h0, .inr (3, [.int 2, .ref ta, .int zs, .int po, .int fa, .ref da, .ref ra, .ref la, .long we, .long le, .int pk, .int pm, .int co, .ref pa, .int pl, .ref xa, .ref ya, .int mb, .ref ea, .ref wa])), (ra, .inl (cI, 28, .inl rf)), (pa, .inl (cI, 4, .inl pf))] H := hP
          have hD : va_D A [(h0, .inr (3, [.int 2, .ref ta, .int zs, .int po, .int fa, .ref da, .ref ra, .ref la, .long we, .long le, .int pk, .int pm, .int co, .ref pa, .int pl, .ref xa, .ref ya, .int mb, .ref ea, .ref wa])), (ra, .inl (cI, 28, .inl rf)), (pa, .inl (cI, 4, .inl pf))] := hD
          refine lv_aload_n hx hb dR_pattern_69 rfl (lv_at hl 1 rfl) ?_
          refine va_get (D := (dC, dI)) (ci := 3) (v := .int 2) (C := xR_R) (T := xF_R) (N := 20) hx hb hts xi_R hown hK hP 0 rfl rfl 0 (by decide) (hts _ xk_646) (fun _ h9 => h9) rfl dR_pattern_70 ?_
          refine lv_if_le (tgt := 78) hx hb dR_pattern_73 (by decide) (fun c_9 => ?_) (fun c_9 => ?_)
          · exact absurd c_9 (by decide)
          · refine lv_iconst (v := 0) hx hb dR_pattern_76 (by decide) ?_
            have e_0 : gR_pattern rf pf pk pm co kind w h n = false := (if_pos c_1).trans ((if_neg c_6).trans ((if_pos c_7).trans (rfl)))
            have e_1 : gR_pattern_0 rf pf pk pm co kind w h n = (2 : Int32) := (if_pos c_1).trans ((if_neg c_6).trans ((if_pos c_7).trans (rfl)))
            have e_2 : gR_pattern_10 rf pf pk pm co kind w h n = pk := (if_pos c_1).trans ((if_neg c_6).trans ((if_pos c_7).trans (rfl)))
            have e_3 : gR_pattern_11 rf pf pk pm co kind w h n = pm := (if_pos c_1).trans ((if_neg c_6).trans ((if_pos c_7).trans (rfl)))
            have e_4 : gR_pattern_12 rf pf pk pm co kind w h n = co := (if_pos c_1).trans ((if_neg c_6).trans ((if_pos c_7).trans (rfl)))
            have e_5 : gR_pattern_f rf pf pk pm co kind w h n = pf := (if_pos c_1).trans ((if_neg c_6).trans ((if_pos c_7).trans (rfl)))
            have hP9 := hP.sub (ws' := [(h0, .inr (3, [.int 2, .ref ta, .int zs, .int po, .int fa, .ref da, .ref ra, .ref la, .long we, .long le, .int pk, .int pm, .int co, .ref pa, .int pl, .ref xa, .ref ya, .int mb, .ref ea, .ref wa])), (ra, .inl (cI, 28, .inl rf)), (pa, .inl (cI, 4, .inl pf))]) [0, 1, 2] rfl
            have hD9 := hD.sub (ws' := [(h0, .inr (3, [.int 2, .ref ta, .int zs, .int po, .int fa, .ref da, .ref ra, .ref la, .long we, .long le, .int pk, .int pm, .int co, .ref pa, .int pl, .ref xa, .ref ya, .int mb, .ref ea, .ref wa])), (ra, .inl (cI, 28, .inl rf)), (pa, .inl (cI, 4, .inl pf))]) [0, 1, 2] (by decide) rfl
            exact W.zret (v := 0) hx hb hr (by decide) (fun t ht hW => ⟨_, _, rfl, ⟨by first | rfl | (simp only [e_0, e_1, e_2, e_3, e_4, e_5]; try rfl), by first | rfl | (simp only [e_0, e_1, e_2, e_3, e_4, e_5]; try rfl)⟩, by rw [ht]; exact hP9, hD9, hS.F ht⟩) hS.2.2 dR_pattern_77
        · exact absurd c_8 (by decide)
      · have c_7 := xb_bi_f.mp c_7
        refine lv_iconst (v := 1) hx hb dR_pattern_52 (by decide) ?_
        refine lv_goto (tgt := 66) hx hb dR_pattern_53 (by decide) ?_
        refine va_put (D := (dC, dI)) (ci := 3) (v := .int 1) (ty := .int) (C := xR_R) (T := xF_R) (N := 20) hx hb hts xi_R xt_R xt_R_ok xn_R hown hK hP hD hS 0 rfl rfl 0 (by decide) (hts _ xk_646) (fun _ h9 => h9) rfl (by decide +kernel) rfl rfl (Nat.le_of_ble_eq_true rfl) dR_pattern_66 (fun H locs hP hD hS => ?_)
        have hP : va_P (dC, dI) classes [(h0, .inr (3, [.int 1, .ref ta, .int zs, .int po, .int fa, .ref da, .ref ra, .ref la, .long we, .long le, .int pk, .int pm, .int co, .ref pa, .int pl, .ref xa, .ref ya, .int mb, .ref ea, .ref wa])), (ra, .inl (cI, 28, .inl rf)), (pa, .inl (cI, 4, .inl pf))] H := hP
        have hD : va_D A [(h0, .inr (3, [.int 1, .ref ta, .int zs, .int po, .int fa, .ref da, .ref ra, .ref la, .long we, .long le, .int pk, .int pm, .int co, .ref pa, .int pl, .ref xa, .ref ya, .int mb, .ref ea, .ref wa])), (ra, .inl (cI, 28, .inl rf)), (pa, .inl (cI, 4, .inl pf))] := hD
        refine lv_aload_n hx hb dR_pattern_69 rfl (lv_at hl 1 rfl) ?_
        refine va_get (D := (dC, dI)) (ci := 3) (v := .int 1) (C := xR_R) (T := xF_R) (N := 20) hx hb hts xi_R hown hK hP 0 rfl rfl 0 (by decide) (hts _ xk_646) (fun _ h9 => h9) rfl dR_pattern_70 ?_
        refine lv_if_le (tgt := 78) hx hb dR_pattern_73 (by decide) (fun c_10 => ?_) (fun c_10 => ?_)
        · exact absurd c_10 (by decide)
        · refine lv_iconst (v := 0) hx hb dR_pattern_76 (by decide) ?_
          have e_0 : gR_pattern rf pf pk pm co kind w h n = false := (if_pos c_1).trans ((if_neg c_6).trans ((if_neg c_7).trans (rfl)))
          have e_1 : gR_pattern_0 rf pf pk pm co kind w h n = (1 : Int32) := (if_pos c_1).trans ((if_neg c_6).trans ((if_neg c_7).trans (rfl)))
          have e_2 : gR_pattern_10 rf pf pk pm co kind w h n = pk := (if_pos c_1).trans ((if_neg c_6).trans ((if_neg c_7).trans (rfl)))
          have e_3 : gR_pattern_11 rf pf pk pm co kind w h n = pm := (if_pos c_1).trans ((if_neg c_6).trans ((if_neg c_7).trans (rfl)))
          have e_4 : gR_pattern_12 rf pf pk pm co kind w h n = co := (if_pos c_1).trans ((if_neg c_6).trans ((if_neg c_7).trans (rfl)))
          have e_5 : gR_pattern_f rf pf pk pm co kind w h n = pf := (if_pos c_1).trans ((if_neg c_6).trans ((if_neg c_7).trans (rfl)))
          have hP9 := hP.sub (ws' := [(h0, .inr (3, [.int 1, .ref ta, .int zs, .int po, .int fa, .ref da, .ref ra, .ref la, .long we, .long le, .int pk, .int pm, .int co, .ref pa, .int pl, .ref xa, .ref ya, .int mb, .ref ea, .ref wa])), (ra, .inl (cI, 28, .inl rf)), (pa, .inl (cI, 4, .inl pf))]) [0, 1, 2] rfl
          have hD9 := hD.sub (ws' := [(h0, .inr (3, [.int 1, .ref ta, .int zs, .int po, .int fa, .ref da, .ref ra, .ref la, .long we, .long le, .int pk, .int pm, .int co, .ref pa, .int pl, .ref xa, .ref ya, .int mb, .ref ea, .ref wa])), (ra, .inl (cI, 28, .inl rf)), (pa, .inl (cI, 4, .inl pf))]) [0, 1, 2] (by decide) rfl
          exact W.zret (v := 0) hx hb hr (by decide) (fun t ht hW => ⟨_, _, rfl, ⟨by first | rfl | (simp only [e_0, e_1, e_2, e_3, e_4, e_5]; try rfl), by first | rfl | (simp only [e_0, e_1, e_2, e_3, e_4, e_5]; try rfl)⟩, by rw [ht]; exact hP9, hD9, hS.F ht⟩) hS.2.2 dR_pattern_77
    · have c_6 := xb_bi_t.mp c_6
      refine lv_iload hx hb dR_pattern_24 (lv_at hl 4 rfl) ?_
      refine lv_i2l hx hb dR_pattern_26 rfl ?_
      refine lv_lconst (v := 1) hx hb dR_pattern_27 (by decide) ?_
      refine lv_ldc2 (v := 100) hx hb hown (hts _ xk_644) dR_pattern_28 ?_
      refine xb_rd (W.runS (As := [.long n.toInt64, .long 1, .long 100]) (rest := []) ⟨hx, hb, hml, hown, hts⟩ (cR_isIn l E n.toInt64 1 100) (cwS 3 hts (xb_gi (List.forall_mem_cons.mpr ⟨xk_754, List.forall_mem_cons.mpr ⟨xk_755, List.forall_mem_cons.mpr ⟨xk_45, List.forall_mem_cons.mpr ⟨xk_756, fun _ h => absurd h List.not_mem_nil⟩⟩⟩⟩)) rfl rfl rfl (by decide +kernel) ⟨Nat.le_of_ble_eq_true rfl, Nat.le_of_ble_eq_true rfl⟩) ⟨fun _ _ _ _ q => q, fun U hU hW => ⟨rfl, xb_atS hAt hS hA0 hU hW, fun k q h => by simp at h⟩⟩ rfl rfl hl.1 rfl (lv_room (Nat.le_of_ble_eq_true rfl)) dR_pattern_31 ⟨Nat.zero_le _, Nat.zero_le _⟩) ?_
      refine lv_if_eq (tgt := 41) hx hb dR_pattern_34 (by decide) (fun c_11 => ?_) (fun c_11 => ?_)
      · have c_11 := xb_bi_f.mp c_11
        refine lv_iconst (v := 0) hx hb dR_pattern_41 (by decide) ?_
        refine lv_istore (lv' := [(5, .int 0), (0, .ref h0), (1, .int kind), (2, .int w), (3, .int h), (4, .int n)]) hx hb dR_pattern_42 hl (by decide) rfl (fun ls hl => ?_)
        refine lv_aload_n hx hb dR_pattern_44 rfl (lv_at hl 1 rfl) ?_
        refine lv_iload_n hx hb dR_pattern_45 rfl (lv_at hl 2 rfl) ?_
        refine xb_rd (W.runS (As := [.int kind]) (rest := [.ref h0]) ⟨hx, hb, hml, hown, hts⟩ (cR_isFour l E kind) (cwS 1 hts (xb_gi (List.forall_mem_cons.mpr ⟨xk_750, List.forall_mem_cons.mpr ⟨xk_751, List.forall_mem_cons.mpr ⟨xk_45, List.forall_mem_cons.mpr ⟨xk_752, fun _ h => absurd h List.not_mem_nil⟩⟩⟩⟩)) rfl rfl rfl (by decide +kernel) ⟨Nat.le_of_ble_eq_true rfl, Nat.le_of_ble_eq_true rfl⟩) ⟨fun _ _ _ _ q => q, fun U hU hW => ⟨rfl, xb_atS hAt hS hA0 hU hW, fun k q h => by simp at h⟩⟩ rfl rfl hl.1 rfl (lv_room (Nat.le_of_ble_eq_true rfl)) dR_pattern_46 ⟨Nat.zero_le _, Nat.zero_le _⟩) ?_
        refine lv_if_ne (tgt := 56) hx hb dR_pattern_49 (by decide) (fun c_12 => ?_) (fun c_12 => ?_)
        · have c_12 := xb_bi_t.mp c_12
          refine lv_iload hx hb dR_pattern_56 (lv_at hl 0 rfl) ?_
          refine lv_if_eq (tgt := 65) hx hb dR_pattern_58 (by decide) (fun c_13 => ?_) (fun c_13 => ?_)
          · refine lv_iconst (v := 2) hx hb dR_pattern_65 (by decide) ?_
            refine va_put (D := (dC, dI)) (ci := 3) (v := .int 2) (ty := .int) (C := xR_R) (T := xF_R) (N := 20) hx hb hts xi_R xt_R xt_R_ok xn_R hown hK hP hD hS 0 rfl rfl 0 (by decide) (hts _ xk_646) (fun _ h9 => h9) rfl (by decide +kernel) rfl rfl (Nat.le_of_ble_eq_true rfl) dR_pattern_66 (fun H locs hP hD hS => ?_)
            have hP : va_P (dC, dI) classes [(h0, .inr (3, [.int 2, .ref ta, .int zs, .int po, .int fa, .ref da, .ref ra, .ref la, .long we, .long le, .int pk, .int pm, .int co, .ref pa, .int pl, .ref xa, .ref ya, .int mb, .ref ea, .ref wa])), (ra, .inl (cI, 28, .inl rf)), (pa, .inl (cI, 4, .inl pf))] H := hP
            have hD : va_D A [(h0, .inr (3, [.int 2, .ref ta, .int zs, .int po, .int fa, .ref da, .ref ra, .ref la, .long we, .long le, .int pk, .int pm, .int co, .ref pa, .int pl, .ref xa, .ref ya, .int mb, .ref ea, .ref wa])), (ra, .inl (cI, 28, .inl rf)), (pa, .inl (cI, 4, .inl pf))] := hD
            refine lv_aload_n hx hb dR_pattern_69 rfl (lv_at hl 1 rfl) ?_
            refine va_get (D := (dC, dI)) (ci := 3) (v := .int 2) (C := xR_R) (T := xF_R) (N := 20) hx hb hts xi_R hown hK hP 0 rfl rfl 0 (by decide) (hts _ xk_646) (fun _ h9 => h9) rfl dR_pattern_70 ?_
            refine lv_if_le (tgt := 78) hx hb dR_pattern_73 (by decide) (fun c_14 => ?_) (fun c_14 => ?_)
            · exact absurd c_14 (by decide)
            · refine lv_iconst (v := 0) hx hb dR_pattern_76 (by decide) ?_
              have e_0 : gR_pattern rf pf pk pm co kind w h n = false := (if_pos c_1).trans ((if_pos c_6).trans ((if_neg c_11).trans ((if_pos c_12).trans (rfl))))
              have e_1 : gR_pattern_0 rf pf pk pm co kind w h n = (2 : Int32) := (if_pos c_1).trans ((if_pos c_6).trans ((if_neg c_11).trans ((if_pos c_12).trans (rfl))))
              have e_2 : gR_pattern_10 rf pf pk pm co kind w h n = pk := (if_pos c_1).trans ((if_pos c_6).trans ((if_neg c_11).trans ((if_pos c_12).trans (rfl))))
              have e_3 : gR_pattern_11 rf pf pk pm co kind w h n = pm := (if_pos c_1).trans ((if_pos c_6).trans ((if_neg c_11).trans ((if_pos c_12).trans (rfl))))
              have e_4 : gR_pattern_12 rf pf pk pm co kind w h n = co := (if_pos c_1).trans ((if_pos c_6).trans ((if_neg c_11).trans ((if_pos c_12).trans (rfl))))
              have e_5 : gR_pattern_f rf pf pk pm co kind w h n = pf := (if_pos c_1).trans ((if_pos c_6).trans ((if_neg c_11).trans ((if_pos c_12).trans (rfl))))
              have hP9 := hP.sub (ws' := [(h0, .inr (3, [.int 2, .ref ta, .int zs, .int po, .int fa, .ref da, .ref ra, .ref la, .long we, .long le, .int pk, .int pm, .int co, .ref pa, .int pl, .ref xa, .ref ya, .int mb, .ref ea, .ref wa])), (ra, .inl (cI, 28, .inl rf)), (pa, .inl (cI, 4, .inl pf))]) [0, 1, 2] rfl
              have hD9 := hD.sub (ws' := [(h0, .inr (3, [.int 2, .ref ta, .int zs, .int po, .int fa, .ref da, .ref ra, .ref la, .long we, .long le, .int pk, .int pm, .int co, .ref pa, .int pl, .ref xa, .ref ya, .int mb, .ref ea, .ref wa])), (ra, .inl (cI, 28, .inl rf)), (pa, .inl (cI, 4, .inl pf))]) [0, 1, 2] (by decide) rfl
              exact W.zret (v := 0) hx hb hr (by decide) (fun t ht hW => ⟨_, _, rfl, ⟨by first | rfl | (simp only [e_0, e_1, e_2, e_3, e_4, e_5]; try rfl), by first | rfl | (simp only [e_0, e_1, e_2, e_3, e_4, e_5]; try rfl)⟩, by rw [ht]; exact hP9, hD9, hS.F ht⟩) hS.2.2 dR_pattern_77
          · exact absurd c_13 (by decide)
        · have c_12 := xb_bi_f.mp c_12
          refine lv_iconst (v := 1) hx hb dR_pattern_52 (by decide) ?_
          refine lv_goto (tgt := 66) hx hb dR_pattern_53 (by decide) ?_
          refine va_put (D := (dC, dI)) (ci := 3) (v := .int 1) (ty := .int) (C := xR_R) (T := xF_R) (N := 20) hx hb hts xi_R xt_R xt_R_ok xn_R hown hK hP hD hS 0 rfl rfl 0 (by decide) (hts _ xk_646) (fun _ h9 => h9) rfl (by decide +kernel) rfl rfl (Nat.le_of_ble_eq_true rfl) dR_pattern_66 (fun H locs hP hD hS => ?_)
          have hP : va_P (dC, dI) classes [(h0, .inr (3, [.int 1, .ref ta, .int zs, .int po, .int fa, .ref da, .ref ra, .ref la, .long we, .long le, .int pk, .int pm, .int co, .ref pa, .int pl, .ref xa, .ref ya, .int mb, .ref ea, .ref wa])), (ra, .inl (cI, 28, .inl rf)), (pa, .inl (cI, 4, .inl pf))] H := hP
          have hD : va_D A [(h0, .inr (3, [.int 1, .ref ta, .int zs, .int po, .int fa, .ref da, .ref ra, .ref la, .long we, .long le, .int pk, .int pm, .int co, .ref pa, .int pl, .ref xa, .ref ya, .int mb, .ref ea, .ref wa])), (ra, .inl (cI, 28, .inl rf)), (pa, .inl (cI, 4, .inl pf))] := hD
          refine lv_aload_n hx hb dR_pattern_69 rfl (lv_at hl 1 rfl) ?_
          refine va_get (D := (dC, dI)) (ci := 3) (v := .int 1) (C := xR_R) (T := xF_R) (N := 20) hx hb hts xi_R hown hK hP 0 rfl rfl 0 (by decide) (hts _ xk_646) (fun _ h9 => h9) rfl dR_pattern_70 ?_
          refine lv_if_le (tgt := 78) hx hb dR_pattern_73 (by decide) (fun c_15 => ?_) (fun c_15 => ?_)
          · exact absurd c_15 (by decide)
          · refine lv_iconst (v := 0) hx hb dR_pattern_76 (by decide) ?_
            have e_0 : gR_pattern rf pf pk pm co kind w h n = false := (if_pos c_1).trans ((if_pos c_6).trans ((if_neg c_11).trans ((if_neg c_12).trans (rfl))))
            have e_1 : gR_pattern_0 rf pf pk pm co kind w h n = (1 : Int32) := (if_pos c_1).trans ((if_pos c_6).trans ((if_neg c_11).trans ((if_neg c_12).trans (rfl))))
            have e_2 : gR_pattern_10 rf pf pk pm co kind w h n = pk := (if_pos c_1).trans ((if_pos c_6).trans ((if_neg c_11).trans ((if_neg c_12).trans (rfl))))
            have e_3 : gR_pattern_11 rf pf pk pm co kind w h n = pm := (if_pos c_1).trans ((if_pos c_6).trans ((if_neg c_11).trans ((if_neg c_12).trans (rfl))))
            have e_4 : gR_pattern_12 rf pf pk pm co kind w h n = co := (if_pos c_1).trans ((if_pos c_6).trans ((if_neg c_11).trans ((if_neg c_12).trans (rfl))))
            have e_5 : gR_pattern_f rf pf pk pm co kind w h n = pf := (if_pos c_1).trans ((if_pos c_6).trans ((if_neg c_11).trans ((if_neg c_12).trans (rfl))))
            have hP9 := hP.sub (ws' := [(h0, .inr (3, [.int 1, .ref ta, .int zs, .int po, .int fa, .ref da, .ref ra, .ref la, .long we, .long le, .int pk, .int pm, .int co, .ref pa, .int pl, .ref xa, .ref ya, .int mb, .ref ea, .ref wa])), (ra, .inl (cI, 28, .inl rf)), (pa, .inl (cI, 4, .inl pf))]) [0, 1, 2] rfl
            have hD9 := hD.sub (ws' := [(h0, .inr (3, [.int 1, .ref ta, .int zs, .int po, .int fa, .ref da, .ref ra, .ref la, .long we, .long le, .int pk, .int pm, .int co, .ref pa, .int pl, .ref xa, .ref ya, .int mb, .ref ea, .ref wa])), (ra, .inl (cI, 28, .inl rf)), (pa, .inl (cI, 4, .inl pf))]) [0, 1, 2] (by decide) rfl
            exact W.zret (v := 0) hx hb hr (by decide) (fun t ht hW => ⟨_, _, rfl, ⟨by first | rfl | (simp only [e_0, e_1, e_2, e_3, e_4, e_5]; try rfl), by first | rfl | (simp only [e_0, e_1, e_2, e_3, e_4, e_5]; try rfl)⟩, by rw [ht]; exact hP9, hD9, hS.F ht⟩) hS.2.2 dR_pattern_77
      · have c_11 := xb_bi_t.mp c_11
        refine lv_iconst (v := 1) hx hb dR_pattern_37 (by decide) ?_
        refine lv_goto (tgt := 42) hx hb dR_pattern_38 (by decide) ?_
        refine lv_istore (lv' := [(5, .int 1), (0, .ref h0), (1, .int kind), (2, .int w), (3, .int h), (4, .int n)]) hx hb dR_pattern_42 hl (by decide) rfl (fun ls hl => ?_)
        refine lv_aload_n hx hb dR_pattern_44 rfl (lv_at hl 1 rfl) ?_
        refine lv_iload_n hx hb dR_pattern_45 rfl (lv_at hl 2 rfl) ?_
        refine xb_rd (W.runS (As := [.int kind]) (rest := [.ref h0]) ⟨hx, hb, hml, hown, hts⟩ (cR_isFour l E kind) (cwS 1 hts (xb_gi (List.forall_mem_cons.mpr ⟨xk_750, List.forall_mem_cons.mpr ⟨xk_751, List.forall_mem_cons.mpr ⟨xk_45, List.forall_mem_cons.mpr ⟨xk_752, fun _ h => absurd h List.not_mem_nil⟩⟩⟩⟩)) rfl rfl rfl (by decide +kernel) ⟨Nat.le_of_ble_eq_true rfl, Nat.le_of_ble_eq_true rfl⟩) ⟨fun _ _ _ _ q => q, fun U hU hW => ⟨rfl, xb_atS hAt hS hA0 hU hW, fun k q h => by simp at h⟩⟩ rfl rfl hl.1 rfl (lv_room (Nat.le_of_ble_eq_true rfl)) dR_pattern_46 ⟨Nat.zero_le _, Nat.zero_le _⟩) ?_
        refine lv_if_ne (tgt := 56) hx hb dR_pattern_49 (by decide) (fun c_16 => ?_) (fun c_16 => ?_)
        · have c_16 := xb_bi_t.mp c_16
          refine lv_iload hx hb dR_pattern_56 (lv_at hl 0 rfl) ?_
          refine lv_if_eq (tgt := 65) hx hb dR_pattern_58 (by decide) (fun c_17 => ?_) (fun c_17 => ?_)
          · exact absurd c_17 (by decide)
          · refine lv_iconst (v := 0) hx hb dR_pattern_61 (by decide) ?_
            refine lv_goto (tgt := 66) hx hb dR_pattern_62 (by decide) ?_
            refine va_put (D := (dC, dI)) (ci := 3) (v := .int 0) (ty := .int) (C := xR_R) (T := xF_R) (N := 20) hx hb hts xi_R xt_R xt_R_ok xn_R hown hK hP hD hS 0 rfl rfl 0 (by decide) (hts _ xk_646) (fun _ h9 => h9) rfl (by decide +kernel) rfl rfl (Nat.le_of_ble_eq_true rfl) dR_pattern_66 (fun H locs hP hD hS => ?_)
            have hP : va_P (dC, dI) classes [(h0, .inr (3, [.int 0, .ref ta, .int zs, .int po, .int fa, .ref da, .ref ra, .ref la, .long we, .long le, .int pk, .int pm, .int co, .ref pa, .int pl, .ref xa, .ref ya, .int mb, .ref ea, .ref wa])), (ra, .inl (cI, 28, .inl rf)), (pa, .inl (cI, 4, .inl pf))] H := hP
            have hD : va_D A [(h0, .inr (3, [.int 0, .ref ta, .int zs, .int po, .int fa, .ref da, .ref ra, .ref la, .long we, .long le, .int pk, .int pm, .int co, .ref pa, .int pl, .ref xa, .ref ya, .int mb, .ref ea, .ref wa])), (ra, .inl (cI, 28, .inl rf)), (pa, .inl (cI, 4, .inl pf))] := hD
            refine lv_aload_n hx hb dR_pattern_69 rfl (lv_at hl 1 rfl) ?_
            refine va_get (D := (dC, dI)) (ci := 3) (v := .int 0) (C := xR_R) (T := xF_R) (N := 20) hx hb hts xi_R hown hK hP 0 rfl rfl 0 (by decide) (hts _ xk_646) (fun _ h9 => h9) rfl dR_pattern_70 ?_
            refine lv_if_le (tgt := 78) hx hb dR_pattern_73 (by decide) (fun c_18 => ?_) (fun c_18 => ?_)
            · refine lv_iload_n hx hb dR_pattern_78 rfl (lv_at hl 3 rfl) ?_
              refine lv_i2l hx hb dR_pattern_79 rfl ?_
              refine lv_aload_n hx hb dR_pattern_80 rfl (lv_at hl 1 rfl) ?_
              refine lv_iload_n hx hb dR_pattern_81 rfl (lv_at hl 2 rfl) ?_
              refine lv_iconst (v := 3) hx hb dR_pattern_82 (by decide) ?_
              refine xb_rd (W.runV (C := "NailRulesModel") (As := [.int kind, .int 3]) (rest := [.long w.toInt64]) ⟨hx, hb, hml, hown, hts⟩ (cR_space l E h0 ([.int 0, .ref ta, .int zs, .int po, .int fa, .ref da, .ref ra, .ref la, .long we, .long le, .int pk, .int pm, .int co, .ref pa, .int pl, .ref xa, .ref ya, .int mb, .ref ea, .ref wa]) ra rf kind 3 rfl (xp_rul0 c_16) (xp_rulN 3 (by decide) c_16)) (cwV 2 hts (xb_gi (List.forall_mem_cons.mpr ⟨xk_792, List.forall_mem_cons.mpr ⟨xk_794, List.forall_mem_cons.mpr ⟨xk_36, List.forall_mem_cons.mpr ⟨xk_45, List.forall_mem_cons.mpr ⟨xk_795, fun _ h => absurd h List.not_mem_nil⟩⟩⟩⟩⟩)) rfl rfl rfl (by decide +kernel) ⟨Nat.le_of_ble_eq_true rfl, Nat.le_of_ble_eq_true rfl⟩) ⟨fun _ _ _ _ q => q, va_recv hK hP (ci := 3) (q0 := 0) rfl rfl, fun U hU hW => ⟨rfl, xb_atS hAt hS hA0 hU hW, by rw [hU]; exact hP.sub (ws' := [(h0, .inr (3, [.int 0, .ref ta, .int zs, .int po, .int fa, .ref da, .ref ra, .ref la, .long we, .long le, .int pk, .int pm, .int co, .ref pa, .int pl, .ref xa, .ref ya, .int mb, .ref ea, .ref wa])), (ra, .inl (cI, 28, .inl rf))]) [0, 1] rfl⟩⟩ rfl rfl hl.1 rfl (lv_room (Nat.le_of_ble_eq_true rfl)) dR_pattern_83 ⟨Nat.zero_le _, Nat.zero_le _⟩) ?_
              refine lv_aload_n hx hb dR_pattern_86 rfl (lv_at hl 1 rfl) ?_
              refine lv_iload_n hx hb dR_pattern_87 rfl (lv_at hl 2 rfl) ?_
              refine lv_iconst (v := 4) hx hb dR_pattern_88 (by decide) ?_
              refine xb_rd (W.runV (C := "NailRulesModel") (As := [.int kind, .int 4]) (rest := [.long (fR_space rf kind (3)), .long w.toInt64]) ⟨hx, hb, hml, hown, hts⟩ (cR_space l E h0 ([.int 0, .ref ta, .int zs, .int po, .int fa, .ref da, .ref ra, .ref la, .long we, .long le, .int pk, .int pm, .int co, .ref pa, .int pl, .ref xa, .ref ya, .int mb, .ref ea, .ref wa]) ra rf kind 4 rfl (xp_rul0 c_16) (xp_rulN 4 (by decide) c_16)) (cwV 2 hts (xb_gi (List.forall_mem_cons.mpr ⟨xk_792, List.forall_mem_cons.mpr ⟨xk_794, List.forall_mem_cons.mpr ⟨xk_36, List.forall_mem_cons.mpr ⟨xk_45, List.forall_mem_cons.mpr ⟨xk_795, fun _ h => absurd h List.not_mem_nil⟩⟩⟩⟩⟩)) rfl rfl rfl (by decide +kernel) ⟨Nat.le_of_ble_eq_true rfl, Nat.le_of_ble_eq_true rfl⟩) ⟨fun _ _ _ _ q => q, va_recv hK hP (ci := 3) (q0 := 0) rfl rfl, fun U hU hW => ⟨rfl, xb_atS hAt hS hA0 hU hW, by rw [hU]; exact hP.sub (ws' := [(h0, .inr (3, [.int 0, .ref ta, .int zs, .int po, .int fa, .ref da, .ref ra, .ref la, .long we, .long le, .int pk, .int pm, .int co, .ref pa, .int pl, .ref xa, .ref ya, .int mb, .ref ea, .ref wa])), (ra, .inl (cI, 28, .inl rf))]) [0, 1] rfl⟩⟩ rfl rfl hl.1 rfl (lv_room (Nat.le_of_ble_eq_true rfl)) dR_pattern_89 ⟨Nat.zero_le _, Nat.zero_le _⟩) ?_
              refine xb_rd (W.runS (As := [.long w.toInt64, .long (fR_space rf kind (3)), .long (fR_space rf kind (4))]) (rest := []) ⟨hx, hb, hml, hown, hts⟩ (cR_fits l E w.toInt64 (fR_space rf kind (3)) (fR_space rf kind (4)) (xq_1 hr9 4 (by decide) c_16)) (cwS 3 hts (xb_gi (List.forall_mem_cons.mpr ⟨xk_796, List.forall_mem_cons.mpr ⟨xk_797, List.forall_mem_cons.mpr ⟨xk_45, List.forall_mem_cons.mpr ⟨xk_798, fun _ h => absurd h List.not_mem_nil⟩⟩⟩⟩)) rfl rfl rfl (by decide +kernel) ⟨Nat.le_of_ble_eq_true rfl, Nat.le_of_ble_eq_true rfl⟩) ⟨fun _ _ _ _ q => q, fun U hU hW => ⟨rfl, xb_atS hAt hS hA0 hU hW, fun k q h => by simp at h⟩⟩ rfl rfl hl.1 rfl (lv_room (Nat.le_of_ble_eq_true rfl)) dR_pattern_92 ⟨Nat.zero_le _, Nat.zero_le _⟩) ?_
              refine lv_lstore (lv' := [(6, .long (fR_fits w.toInt64 (fR_space rf kind (3)) (fR_space rf kind (4)))), (5, .int 1), (0, .ref h0), (1, .int kind), (2, .int w), (3, .int h), (4, .int n)]) hx hb dR_pattern_95 hl (by decide) rfl (fun ls hl => ?_)
              refine lv_iload_n hx hb dR_pattern_97 rfl (lv_at hl 5 rfl) ?_
              refine lv_i2l hx hb dR_pattern_98 rfl ?_
              refine lv_aload_n hx hb dR_pattern_99 rfl (lv_at hl 2 rfl) ?_
              refine lv_iload_n hx hb dR_pattern_100 rfl (lv_at hl 3 rfl) ?_
              refine lv_iconst (v := 2) hx hb dR_pattern_101 (by decide) ?_
              refine xb_rd (W.runV (C := "NailRulesModel") (As := [.int kind, .int 2]) (rest := [.long h.toInt64]) ⟨hx, hb, hml, hown, hts⟩ (cR_space l E h0 ([.int 0, .ref ta, .int zs, .int po, .int fa, .ref da, .ref ra, .ref la, .long we, .long le, .int pk, .int pm, .int co, .ref pa, .int pl, .ref xa, .ref ya, .int mb, .ref ea, .ref wa]) ra rf kind 2 rfl (xp_rul0 c_16) (xp_rulN 2 (by decide) c_16)) (cwV 2 hts (xb_gi (List.forall_mem_cons.mpr ⟨xk_792, List.forall_mem_cons.mpr ⟨xk_794, List.forall_mem_cons.mpr ⟨xk_36, List.forall_mem_cons.mpr ⟨xk_45, List.forall_mem_cons.mpr ⟨xk_795, fun _ h => absurd h List.not_mem_nil⟩⟩⟩⟩⟩)) rfl rfl rfl (by decide +kernel) ⟨Nat.le_of_ble_eq_true rfl, Nat.le_of_ble_eq_true rfl⟩) ⟨fun _ _ _ _ q => q, va_recv hK hP (ci := 3) (q0 := 0) rfl rfl, fun U hU hW => ⟨rfl, xb_atS hAt hS hA0 hU hW, by rw [hU]; exact hP.sub (ws' := [(h0, .inr (3, [.int 0, .ref ta, .int zs, .int po, .int fa, .ref da, .ref ra, .ref la, .long we, .long le, .int pk, .int pm, .int co, .ref pa, .int pl, .ref xa, .ref ya, .int mb, .ref ea, .ref wa])), (ra, .inl (cI, 28, .inl rf))]) [0, 1] rfl⟩⟩ rfl rfl hl.1 rfl (lv_room (Nat.le_of_ble_eq_true rfl)) dR_pattern_102 ⟨Nat.zero_le _, Nat.zero_le _⟩) ?_
              refine lv_aload_n hx hb dR_pattern_105 rfl (lv_at hl 2 rfl) ?_
              refine lv_iload_n hx hb dR_pattern_106 rfl (lv_at hl 3 rfl) ?_
              refine lv_iconst (v := 5) hx hb dR_pattern_107 (by decide) ?_
              refine xb_rd (W.runV (C := "NailRulesModel") (As := [.int kind, .int 5]) (rest := [.long (fR_space rf kind (2)), .long h.toInt64]) ⟨hx, hb, hml, hown, hts⟩ (cR_space l E h0 ([.int 0, .ref ta, .int zs, .int po, .int fa, .ref da, .ref ra, .ref la, .long we, .long le, .int pk, .int pm, .int co, .ref pa, .int pl, .ref xa, .ref ya, .int mb, .ref ea, .ref wa]) ra rf kind 5 rfl (xp_rul0 c_16) (xp_rulN 5 (by decide) c_16)) (cwV 2 hts (xb_gi (List.forall_mem_cons.mpr ⟨xk_792, List.forall_mem_cons.mpr ⟨xk_794, List.forall_mem_cons.mpr ⟨xk_36, List.forall_mem_cons.mpr ⟨xk_45, List.forall_mem_cons.mpr ⟨xk_795, fun _ h => absurd h List.not_mem_nil⟩⟩⟩⟩⟩)) rfl rfl rfl (by decide +kernel) ⟨Nat.le_of_ble_eq_true rfl, Nat.le_of_ble_eq_true rfl⟩) ⟨fun _ _ _ _ q => q, va_recv hK hP (ci := 3) (q0 := 0) rfl rfl, fun U hU hW => ⟨rfl, xb_atS hAt hS hA0 hU hW, by rw [hU]; exact hP.sub (ws' := [(h0, .inr (3, [.int 0, .ref ta, .int zs, .int po, .int fa, .ref da, .ref ra, .ref la, .long we, .long le, .int pk, .int pm, .int co, .ref pa, .int pl, .ref xa, .ref ya, .int mb, .ref ea, .ref wa])), (ra, .inl (cI, 28, .inl rf))]) [0, 1] rfl⟩⟩ rfl rfl hl.1 rfl (lv_room (Nat.le_of_ble_eq_true rfl)) dR_pattern_108 ⟨Nat.zero_le _, Nat.zero_le _⟩) ?_
              refine xb_rd (W.runS (As := [.long h.toInt64, .long (fR_space rf kind (2)), .long (fR_space rf kind (5))]) (rest := []) ⟨hx, hb, hml, hown, hts⟩ (cR_fits l E h.toInt64 (fR_space rf kind (2)) (fR_space rf kind (5)) (xq_1 hr9 5 (by decide) c_16)) (cwS 3 hts (xb_gi (List.forall_mem_cons.mpr ⟨xk_796, List.forall_mem_cons.mpr ⟨xk_797, List.forall_mem_cons.mpr ⟨xk_45, List.forall_mem_cons.mpr ⟨xk_798, fun _ h => absurd h List.not_mem_nil⟩⟩⟩⟩)) rfl rfl rfl (by decide +kernel) ⟨Nat.le_of_ble_eq_true rfl, Nat.le_of_ble_eq_true rfl⟩) ⟨fun _ _ _ _ q => q, fun U hU hW => ⟨rfl, xb_atS hAt hS hA0 hU hW, fun k q h => by simp at h⟩⟩ rfl rfl hl.1 rfl (lv_room (Nat.le_of_ble_eq_true rfl)) dR_pattern_111 ⟨Nat.zero_le _, Nat.zero_le _⟩) ?_
              refine lv_lstore (lv' := [(8, .long (fR_fits h.toInt64 (fR_space rf kind (2)) (fR_space rf kind (5)))), (6, .long (fR_fits w.toInt64 (fR_space rf kind (3)) (fR_space rf kind (4)))), (5, .int 1), (0, .ref h0), (1, .int kind), (2, .int w), (3, .int h), (4, .int n)]) hx hb dR_pattern_114 hl (by decide) rfl (fun ls hl => ?_)
              refine lv_lload hx hb dR_pattern_116 (lv_at hl 1 rfl) ?_
              refine lv_lload hx hb dR_pattern_118 (lv_at hl 0 rfl) ?_
              refine lv_lmul hx hb dR_pattern_120 ?_
              refine lv_iload hx hb dR_pattern_121 (lv_at hl 7 rfl) ?_
              refine lv_i2l hx hb dR_pattern_123 rfl ?_
              refine W.lcmp hx hb dR_pattern_124 ?_
              refine lv_if_ge (tgt := 130) hx hb dR_pattern_125 (by decide) (fun c_21 => ?_) (fun c_21 => ?_)
              · have c_21 := (lg_cmp_ge _ _).mp c_21
                refine lv_aload_n hx hb dR_pattern_130 rfl (lv_at hl 3 rfl) ?_
                refine lv_iload_n hx hb dR_pattern_131 rfl (lv_at hl 4 rfl) ?_
                refine va_put (D := (dC, dI)) (ci := 3) (v := .int kind) (ty := .int) (C := xR_R) (T := xF_R) (N := 20) hx hb hts xi_R xt_R xt_R_ok xn_R hown hK hP hD hS 0 rfl rfl 10 (by decide) (hts _ xk_656) (fun _ h9 => h9) rfl (by decide +kernel) rfl rfl (Nat.le_of_ble_eq_true rfl) dR_pattern_132 (fun H locs hP hD hS => ?_)
                have hP : va_P (dC, dI) classes [(h0, .inr (3, [.int 0, .ref ta, .int zs, .int po, .int fa, .ref da, .ref ra, .ref la, .long we, .long le, .int kind, .int pm, .int co, .ref pa, .int pl, .ref xa, .ref ya, .int mb, .ref ea, .ref wa])), (ra, .inl (cI, 28, .inl rf)), (pa, .inl (cI, 4, .inl pf))] H := hP
                have hD : va_D A [(h0, .inr (3, [.int 0, .ref ta, .int zs, .int po, .int fa, .ref da, .ref ra, .ref la, .long we, .long le, .int kind, .int pm, .int co, .ref pa, .int pl, .ref xa, .ref ya, .int mb, .ref ea, .ref wa])), (ra, .inl (cI, 28, .inl rf)), (pa, .inl (cI, 4, .inl pf))] := hD
                refine lv_aload_n hx hb dR_pattern_135 rfl (lv_at hl 3 rfl) ?_
                refine lv_iload hx hb dR_pattern_136 (lv_at hl 7 rfl) ?_
                refine va_put (D := (dC, dI)) (ci := 3) (v := .int n) (ty := .int) (C := xR_R) (T := xF_R) (N := 20) hx hb hts xi_R xt_R xt_R_ok xn_R hown hK hP hD hS 0 rfl rfl 11 (by decide) (hts _ xk_657) (fun _ h9 => h9) rfl (by decide +kernel) rfl rfl (Nat.le_of_ble_eq_true rfl) dR_pattern_138 (fun H locs hP hD hS => ?_)
                have hP : va_P (dC, dI) classes [(h0, .inr (3, [.int 0, .ref ta, .int zs, .int po, .int fa, .ref da, .ref ra, .ref la, .long we, .long le, .int kind, .int n, .int co, .ref pa, .int pl, .ref xa, .ref ya, .int mb, .ref ea, .ref wa])), (ra, .inl (cI, 28, .inl rf)), (pa, .inl (cI, 4, .inl pf))] H := hP
                have hD : va_D A [(h0, .inr (3, [.int 0, .ref ta, .int zs, .int po, .int fa, .ref da, .ref ra, .ref la, .long we, .long le, .int kind, .int n, .int co, .ref pa, .int pl, .ref xa, .ref ya, .int mb, .ref ea, .ref wa])), (ra, .inl (cI, 28, .inl rf)), (pa, .inl (cI, 4, .inl pf))] := hD
                refine lv_aload_n hx hb dR_pattern_141 rfl (lv_at hl 3 rfl) ?_
                refine lv_lload hx hb dR_pattern_142 (lv_at hl 1 rfl) ?_
                refine lv_l2i hx hb dR_pattern_144 rfl ?_
                refine va_put (D := (dC, dI)) (ci := 3) (v := .int ((fR_fits w.toInt64 (fR_space rf kind (3)) (fR_space rf kind (4))).toInt32)) (ty := .int) (C := xR_R) (T := xF_R) (N := 20) hx hb hts xi_R xt_R xt_R_ok xn_R hown hK hP hD hS 0 rfl rfl 12 (by decide) (hts _ xk_658) (fun _ h9 => h9) rfl (by decide +kernel) rfl rfl (Nat.le_of_ble_eq_true rfl) dR_pattern_145 (fun H locs hP hD hS => ?_)
                have hP : va_P (dC, dI) classes [(h0, .inr (3, [.int 0, .ref ta, .int zs, .int po, .int fa, .ref da, .ref ra, .ref la, .long we, .long le, .int kind, .int n, .int ((fR_fits w.toInt64 (fR_space rf kind (3)) (fR_space rf kind (4))).toInt32), .ref pa, .int pl, .ref xa, .ref ya, .int mb, .ref ea, .ref wa])), (ra, .inl (cI, 28, .inl rf)), (pa, .inl (cI, 4, .inl pf))] H := hP
                have hD : va_D A [(h0, .inr (3, [.int 0, .ref ta, .int zs, .int po, .int fa, .ref da, .ref ra, .ref la, .long we, .long le, .int kind, .int n, .int ((fR_fits w.toInt64 (fR_space rf kind (3)) (fR_space rf kind (4))).toInt32), .ref pa, .int pl, .ref xa, .ref ya, .int mb, .ref ea, .ref wa])), (ra, .inl (cI, 28, .inl rf)), (pa, .inl (cI, 4, .inl pf))] := hD
                refine lv_aload_n hx hb dR_pattern_148 rfl (lv_at hl 3 rfl) ?_
                refine va_get (D := (dC, dI)) (ci := 3) (v := .ref pa) (C := xR_R) (T := xF_R) (N := 20) hx hb hts xi_R hown hK hP 0 rfl rfl 13 (by decide) (hts _ xk_659) (fun _ h9 => h9) rfl dR_pattern_149 ?_
                refine lv_iconst (v := 0) hx hb dR_pattern_152 (by decide) ?_
                refine lv_aload_n hx hb dR_pattern_153 rfl (lv_at hl 3 rfl) ?_
                refine lv_iload_n hx hb dR_pattern_154 rfl (lv_at hl 4 rfl) ?_
                refine lv_iconst (v := 3) hx hb dR_pattern_155 (by decide) ?_
                refine xb_rd (W.runV (C := "NailRulesModel") (As := [.int kind, .int 3]) (rest := [.int 0, .ref pa]) ⟨hx, hb, hml, hown, hts⟩ (cR_space l E h0 ([.int 0, .ref ta, .int zs, .int po, .int fa, .ref da, .ref ra, .ref la, .long we, .long le, .int kind, .int n, .int ((fR_fits w.toInt64 (fR_space rf kind (3)) (fR_space rf kind (4))).toInt32), .ref pa, .int pl, .ref xa, .ref ya, .int mb, .ref ea, .ref wa]) ra rf kind 3 rfl (xp_rul0 c_16) (xp_rulN 3 (by decide) c_16)) (cwV 2 hts (xb_gi (List.forall_mem_cons.mpr ⟨xk_792, List.forall_mem_cons.mpr ⟨xk_794, List.forall_mem_cons.mpr ⟨xk_36, List.forall_mem_cons.mpr ⟨xk_45, List.forall_mem_cons.mpr ⟨xk_795, fun _ h => absurd h List.not_mem_nil⟩⟩⟩⟩⟩)) rfl rfl rfl (by decide +kernel) ⟨Nat.le_of_ble_eq_true rfl, Nat.le_of_ble_eq_true rfl⟩) ⟨fun _ _ _ _ q => q, va_recv hK hP (ci := 3) (q0 := 0) rfl rfl, fun U hU hW => ⟨rfl, xb_atS hAt hS hA0 hU hW, by rw [hU]; exact hP.sub (ws' := [(h0, .inr (3, [.int 0, .ref ta, .int zs, .int po, .int fa, .ref da, .ref ra, .ref la, .long we, .long le, .int kind, .int n, .int ((fR_fits w.toInt64 (fR_space rf kind (3)) (fR_space rf kind (4))).toInt32), .ref pa, .int pl, .ref xa, .ref ya, .int mb, .ref ea, .ref wa])), (ra, .inl (cI, 28, .inl rf))]) [0, 1] rfl⟩⟩ rfl rfl hl.1 rfl (lv_room (Nat.le_of_ble_eq_true rfl)) dR_pattern_156 ⟨Nat.zero_le _, Nat.zero_le _⟩) ?_
                refine lv_l2i hx hb dR_pattern_159 rfl ?_
                have o_22 : vp_in (0 : Int32) 4 := by unfold vp_in; decide
                refine va_iast hx hb hK hP hD hS 2 0 rfl rfl o_22 dR_pattern_160 (fun H locs hP hD hS => ?_)
                have hP : va_P (dC, dI) classes [(h0, .inr (3, [.int 0, .ref ta, .int zs, .int po, .int fa, .ref da, .ref ra, .ref la, .long we, .long le, .int kind, .int n, .int ((fR_fits w.toInt64 (fR_space rf kind (3)) (fR_space rf kind (4))).toInt32), .ref pa, .int pl, .ref xa, .ref ya, .int mb, .ref ea, .ref wa])), (ra, .inl (cI, 28, .inl rf)), (pa, .inl (cI, 4, .inl (upd pf (0 : Int32).toNatClampNeg ((fR_space rf kind (3)).toInt32))))] H := hP
                have hD : va_D A [(h0, .inr (3, [.int 0, .ref ta, .int zs, .int po, .int fa, .ref da, .ref ra, .ref la, .long we, .long le, .int kind, .int n, .int ((fR_fits w.toInt64 (fR_space rf kind (3)) (fR_space rf kind (4))).toInt32), .ref pa, .int pl, .ref xa, .ref ya, .int mb, .ref ea, .ref wa])), (ra, .inl (cI, 28, .inl rf)), (pa, .inl (cI, 4, .inl (upd pf (0 : Int32).toNatClampNeg ((fR_space rf kind (3)).toInt32))))] := hD
                refine lv_aload_n hx hb dR_pattern_161 rfl (lv_at hl 3 rfl) ?_
                refine va_get (D := (dC, dI)) (ci := 3) (v := .ref pa) (C := xR_R) (T := xF_R) (N := 20) hx hb hts xi_R hown hK hP 0 rfl rfl 13 (by decide) (hts _ xk_659) (fun _ h9 => h9) rfl dR_pattern_162 ?_
                refine lv_iconst (v := 1) hx hb dR_pattern_165 (by decide) ?_
                refine lv_aload_n hx hb dR_pattern_166 rfl (lv_at hl 3 rfl) ?_
                refine lv_iload_n hx hb dR_pattern_167 rfl (lv_at hl 4 rfl) ?_
                refine lv_iconst (v := 4) hx hb dR_pattern_168 (by decide) ?_
                refine xb_rd (W.runV (C := "NailRulesModel") (As := [.int kind, .int 4]) (rest := [.int 1, .ref pa]) ⟨hx, hb, hml, hown, hts⟩ (cR_space l E h0 ([.int 0, .ref ta, .int zs, .int po, .int fa, .ref da, .ref ra, .ref la, .long we, .long le, .int kind, .int n, .int ((fR_fits w.toInt64 (fR_space rf kind (3)) (fR_space rf kind (4))).toInt32), .ref pa, .int pl, .ref xa, .ref ya, .int mb, .ref ea, .ref wa]) ra rf kind 4 rfl (xp_rul0 c_16) (xp_rulN 4 (by decide) c_16)) (cwV 2 hts (xb_gi (List.forall_mem_cons.mpr ⟨xk_792, List.forall_mem_cons.mpr ⟨xk_794, List.forall_mem_cons.mpr ⟨xk_36, List.forall_mem_cons.mpr ⟨xk_45, List.forall_mem_cons.mpr ⟨xk_795, fun _ h => absurd h List.not_mem_nil⟩⟩⟩⟩⟩)) rfl rfl rfl (by decide +kernel) ⟨Nat.le_of_ble_eq_true rfl, Nat.le_of_ble_eq_true rfl⟩) ⟨fun _ _ _ _ q => q, va_recv hK hP (ci := 3) (q0 := 0) rfl rfl, fun U hU hW => ⟨rfl, xb_atS hAt hS hA0 hU hW, by rw [hU]; exact hP.sub (ws' := [(h0, .inr (3, [.int 0, .ref ta, .int zs, .int po, .int fa, .ref da, .ref ra, .ref la, .long we, .long le, .int kind, .int n, .int ((fR_fits w.toInt64 (fR_space rf kind (3)) (fR_space rf kind (4))).toInt32), .ref pa, .int pl, .ref xa, .ref ya, .int mb, .ref ea, .ref wa])), (ra, .inl (cI, 28, .inl rf))]) [0, 1] rfl⟩⟩ rfl rfl hl.1 rfl (lv_room (Nat.le_of_ble_eq_true rfl)) dR_pattern_169 ⟨Nat.zero_le _, Nat.zero_le _⟩) ?_
                refine lv_l2i hx hb dR_pattern_172 rfl ?_
                have o_23 : vp_in (1 : Int32) 4 := by unfold vp_in; decide
                refine va_iast hx hb hK hP hD hS 2 0 rfl rfl o_23 dR_pattern_173 (fun H locs hP hD hS => ?_)
                have hP : va_P (dC, dI) classes [(h0, .inr (3, [.int 0, .ref ta, .int zs, .int po, .int fa, .ref da, .ref ra, .ref la, .long we, .long le, .int kind, .int n, .int ((fR_fits w.toInt64 (fR_space rf kind (3)) (fR_space rf kind (4))).toInt32), .ref pa, .int pl, .ref xa, .ref ya, .int mb, .ref ea, .ref wa])), (ra, .inl (cI, 28, .inl rf)), (pa, .inl (cI, 4, .inl (upd (upd pf (0 : Int32).toNatClampNeg ((fR_space rf kind (3)).toInt32)) (1 : Int32).toNatClampNeg ((fR_space rf kind (4)).toInt32))))] H := hP
                have hD : va_D A [(h0, .inr (3, [.int 0, .ref ta, .int zs, .int po, .int fa, .ref da, .ref ra, .ref la, .long we, .long le, .int kind, .int n, .int ((fR_fits w.toInt64 (fR_space rf kind (3)) (fR_space rf kind (4))).toInt32), .ref pa, .int pl, .ref xa, .ref ya, .int mb, .ref ea, .ref wa])), (ra, .inl (cI, 28, .inl rf)), (pa, .inl (cI, 4, .inl (upd (upd pf (0 : Int32).toNatClampNeg ((fR_space rf kind (3)).toInt32)) (1 : Int32).toNatClampNeg ((fR_space rf kind (4)).toInt32))))] := hD
                refine lv_aload_n hx hb dR_pattern_174 rfl (lv_at hl 3 rfl) ?_
                refine va_get (D := (dC, dI)) (ci := 3) (v := .ref pa) (C := xR_R) (T := xF_R) (N := 20) hx hb hts xi_R hown hK hP 0 rfl rfl 13 (by decide) (hts _ xk_659) (fun _ h9 => h9) rfl dR_pattern_175 ?_
                refine lv_iconst (v := 2) hx hb dR_pattern_178 (by decide) ?_
                refine lv_aload_n hx hb dR_pattern_179 rfl (lv_at hl 3 rfl) ?_
                refine lv_iload_n hx hb dR_pattern_180 rfl (lv_at hl 4 rfl) ?_
                refine lv_iconst (v := 2) hx hb dR_pattern_181 (by decide) ?_
                refine xb_rd (W.runV (C := "NailRulesModel") (As := [.int kind, .int 2]) (rest := [.int 2, .ref pa]) ⟨hx, hb, hml, hown, hts⟩ (cR_space l E h0 ([.int 0, .ref ta, .int zs, .int po, .int fa, .ref da, .ref ra, .ref la, .long we, .long le, .int kind, .int n, .int ((fR_fits w.toInt64 (fR_space rf kind (3)) (fR_space rf kind (4))).toInt32), .ref pa, .int pl, .ref xa, .ref ya, .int mb, .ref ea, .ref wa]) ra rf kind 2 rfl (xp_rul0 c_16) (xp_rulN 2 (by decide) c_16)) (cwV 2 hts (xb_gi (List.forall_mem_cons.mpr ⟨xk_792, List.forall_mem_cons.mpr ⟨xk_794, List.forall_mem_cons.mpr ⟨xk_36, List.forall_mem_cons.mpr ⟨xk_45, List.forall_mem_cons.mpr ⟨xk_795, fun _ h => absurd h List.not_mem_nil⟩⟩⟩⟩⟩)) rfl rfl rfl (by decide +kernel) ⟨Nat.le_of_ble_eq_true rfl, Nat.le_of_ble_eq_true rfl⟩) ⟨fun _ _ _ _ q => q, va_recv hK hP (ci := 3) (q0 := 0) rfl rfl, fun U hU hW => ⟨rfl, xb_atS hAt hS hA0 hU hW, by rw [hU]; exact hP.sub (ws' := [(h0, .inr (3, [.int 0, .ref ta, .int zs, .int po, .int fa, .ref da, .ref ra, .ref la, .long we, .long le, .int kind, .int n, .int ((fR_fits w.toInt64 (fR_space rf kind (3)) (fR_space rf kind (4))).toInt32), .ref pa, .int pl, .ref xa, .ref ya, .int mb, .ref ea, .ref wa])), (ra, .inl (cI, 28, .inl rf))]) [0, 1] rfl⟩⟩ rfl rfl hl.1 rfl (lv_room (Nat.le_of_ble_eq_true rfl)) dR_pattern_182 ⟨Nat.zero_le _, Nat.zero_le _⟩) ?_
                refine lv_l2i hx hb dR_pattern_185 rfl ?_
                have o_24 : vp_in (2 : Int32) 4 := by unfold vp_in; decide
                refine va_iast hx hb hK hP hD hS 2 0 rfl rfl o_24 dR_pattern_186 (fun H locs hP hD hS => ?_)
                have hP : va_P (dC, dI) classes [(h0, .inr (3, [.int 0, .ref ta, .int zs, .int po, .int fa, .ref da, .ref ra, .ref la, .long we, .long le, .int kind, .int n, .int ((fR_fits w.toInt64 (fR_space rf kind (3)) (fR_space rf kind (4))).toInt32), .ref pa, .int pl, .ref xa, .ref ya, .int mb, .ref ea, .ref wa])), (ra, .inl (cI, 28, .inl rf)), (pa, .inl (cI, 4, .inl (upd (upd (upd pf (0 : Int32).toNatClampNeg ((fR_space rf kind (3)).toInt32)) (1 : Int32).toNatClampNeg ((fR_space rf kind (4)).toInt32)) (2 : Int32).toNatClampNeg ((fR_space rf kind (2)).toInt32))))] H := hP
                have hD : va_D A [(h0, .inr (3, [.int 0, .ref ta, .int zs, .int po, .int fa, .ref da, .ref ra, .ref la, .long we, .long le, .int kind, .int n, .int ((fR_fits w.toInt64 (fR_space rf kind (3)) (fR_space rf kind (4))).toInt32), .ref pa, .int pl, .ref xa, .ref ya, .int mb, .ref ea, .ref wa])), (ra, .inl (cI, 28, .inl rf)), (pa, .inl (cI, 4, .inl (upd (upd (upd pf (0 : Int32).toNatClampNeg ((fR_space rf kind (3)).toInt32)) (1 : Int32).toNatClampNeg ((fR_space rf kind (4)).toInt32)) (2 : Int32).toNatClampNeg ((fR_space rf kind (2)).toInt32))))] := hD
                refine lv_aload_n hx hb dR_pattern_187 rfl (lv_at hl 3 rfl) ?_
                refine va_get (D := (dC, dI)) (ci := 3) (v := .ref pa) (C := xR_R) (T := xF_R) (N := 20) hx hb hts xi_R hown hK hP 0 rfl rfl 13 (by decide) (hts _ xk_659) (fun _ h9 => h9) rfl dR_pattern_188 ?_
                refine lv_iconst (v := 3) hx hb dR_pattern_191 (by decide) ?_
                refine lv_aload_n hx hb dR_pattern_192 rfl (lv_at hl 3 rfl) ?_
                refine lv_iload_n hx hb dR_pattern_193 rfl (lv_at hl 4 rfl) ?_
                refine lv_iconst (v := 5) hx hb dR_pattern_194 (by decide) ?_
                refine xb_rd (W.runV (C := "NailRulesModel") (As := [.int kind, .int 5]) (rest := [.int 3, .ref pa]) ⟨hx, hb, hml, hown, hts⟩ (cR_space l E h0 ([.int 0, .ref ta, .int zs, .int po, .int fa, .ref da, .ref ra, .ref la, .long we, .long le, .int kind, .int n, .int ((fR_fits w.toInt64 (fR_space rf kind (3)) (fR_space rf kind (4))).toInt32), .ref pa, .int pl, .ref xa, .ref ya, .int mb, .ref ea, .ref wa]) ra rf kind 5 rfl (xp_rul0 c_16) (xp_rulN 5 (by decide) c_16)) (cwV 2 hts (xb_gi (List.forall_mem_cons.mpr ⟨xk_792, List.forall_mem_cons.mpr ⟨xk_794, List.forall_mem_cons.mpr ⟨xk_36, List.forall_mem_cons.mpr ⟨xk_45, List.forall_mem_cons.mpr ⟨xk_795, fun _ h => absurd h List.not_mem_nil⟩⟩⟩⟩⟩)) rfl rfl rfl (by decide +kernel) ⟨Nat.le_of_ble_eq_true rfl, Nat.le_of_ble_eq_true rfl⟩) ⟨fun _ _ _ _ q => q, va_recv hK hP (ci := 3) (q0 := 0) rfl rfl, fun U hU hW => ⟨rfl, xb_atS hAt hS hA0 hU hW, by rw [hU]; exact hP.sub (ws' := [(h0, .inr (3, [.int 0, .ref ta, .int zs, .int po, .int fa, .ref da, .ref ra, .ref la, .long we, .long le, .int kind, .int n, .int ((fR_fits w.toInt64 (fR_space rf kind (3)) (fR_space rf kind (4))).toInt32), .ref pa, .int pl, .ref xa, .ref ya, .int mb, .ref ea, .ref wa])), (ra, .inl (cI, 28, .inl rf))]) [0, 1] rfl⟩⟩ rfl rfl hl.1 rfl (lv_room (Nat.le_of_ble_eq_true rfl)) dR_pattern_195 ⟨Nat.zero_le _, Nat.zero_le _⟩) ?_
                refine lv_l2i hx hb dR_pattern_198 rfl ?_
                have o_25 : vp_in (3 : Int32) 4 := by unfold vp_in; decide
                refine va_iast hx hb hK hP hD hS 2 0 rfl rfl o_25 dR_pattern_199 (fun H locs hP hD hS => ?_)
                have hP : va_P (dC, dI) classes [(h0, .inr (3, [.int 0, .ref ta, .int zs, .int po, .int fa, .ref da, .ref ra, .ref la, .long we, .long le, .int kind, .int n, .int ((fR_fits w.toInt64 (fR_space rf kind (3)) (fR_space rf kind (4))).toInt32), .ref pa, .int pl, .ref xa, .ref ya, .int mb, .ref ea, .ref wa])), (ra, .inl (cI, 28, .inl rf)), (pa, .inl (cI, 4, .inl (upd (upd (upd (upd pf (0 : Int32).toNatClampNeg ((fR_space rf kind (3)).toInt32)) (1 : Int32).toNatClampNeg ((fR_space rf kind (4)).toInt32)) (2 : Int32).toNatClampNeg ((fR_space rf kind (2)).toInt32)) (3 : Int32).toNatClampNeg ((fR_space rf kind (5)).toInt32))))] H := hP
                have hD : va_D A [(h0, .inr (3, [.int 0, .ref ta, .int zs, .int po, .int fa, .ref da, .ref ra, .ref la, .long we, .long le, .int kind, .int n, .int ((fR_fits w.toInt64 (fR_space rf kind (3)) (fR_space rf kind (4))).toInt32), .ref pa, .int pl, .ref xa, .ref ya, .int mb, .ref ea, .ref wa])), (ra, .inl (cI, 28, .inl rf)), (pa, .inl (cI, 4, .inl (upd (upd (upd (upd pf (0 : Int32).toNatClampNeg ((fR_space rf kind (3)).toInt32)) (1 : Int32).toNatClampNeg ((fR_space rf kind (4)).toInt32)) (2 : Int32).toNatClampNeg ((fR_space rf kind (2)).toInt32)) (3 : Int32).toNatClampNeg ((fR_space rf kind (5)).toInt32))))] := hD
                refine lv_iconst (v := 1) hx hb dR_pattern_200 (by decide) ?_
                have e_0 : gR_pattern rf pf pk pm co kind w h n = true := (if_pos c_1).trans ((if_pos c_6).trans ((if_pos c_11).trans ((if_pos c_16).trans ((if_pos c_21).trans (rfl)))))
                have e_1 : gR_pattern_0 rf pf pk pm co kind w h n = (0 : Int32) := (if_pos c_1).trans ((if_pos c_6).trans ((if_pos c_11).trans ((if_pos c_16).trans ((if_pos c_21).trans (rfl)))))
                have e_2 : gR_pattern_10 rf pf pk pm co kind w h n = kind := (if_pos c_1).trans ((if_pos c_6).trans ((if_pos c_11).trans ((if_pos c_16).trans ((if_pos c_21).trans (rfl)))))
                have e_3 : gR_pattern_11 rf pf pk pm co kind w h n = n := (if_pos c_1).trans ((if_pos c_6).trans ((if_pos c_11).trans ((if_pos c_16).trans ((if_pos c_21).trans (rfl)))))
                have e_4 : gR_pattern_12 rf pf pk pm co kind w h n = ((fR_fits w.toInt64 (fR_space rf kind (3)) (fR_space rf kind (4))).toInt32) := (if_pos c_1).trans ((if_pos c_6).trans ((if_pos c_11).trans ((if_pos c_16).trans ((if_pos c_21).trans (rfl)))))
                have e_5 : gR_pattern_f rf pf pk pm co kind w h n = (upd (upd (upd (upd pf (0 : Int32).toNatClampNeg ((fR_space rf kind (3)).toInt32)) (1 : Int32).toNatClampNeg ((fR_space rf kind (4)).toInt32)) (2 : Int32).toNatClampNeg ((fR_space rf kind (2)).toInt32)) (3 : Int32).toNatClampNeg ((fR_space rf kind (5)).toInt32)) := (if_pos c_1).trans ((if_pos c_6).trans ((if_pos c_11).trans ((if_pos c_16).trans ((if_pos c_21).trans (rfl)))))
                have hP9 := hP.sub (ws' := [(h0, .inr (3, [.int 0, .ref ta, .int zs, .int po, .int fa, .ref da, .ref ra, .ref la, .long we, .long le, .int kind, .int n, .int ((fR_fits w.toInt64 (fR_space rf kind (3)) (fR_space rf kind (4))).toInt32), .ref pa, .int pl, .ref xa, .ref ya, .int mb, .ref ea, .ref wa])), (ra, .inl (cI, 28, .inl rf)), (pa, .inl (cI, 4, .inl (upd (upd (upd (upd pf (0 : Int32).toNatClampNeg ((fR_space rf kind (3)).toInt32)) (1 : Int32).toNatClampNeg ((fR_space rf kind (4)).toInt32)) (2 : Int32).toNatClampNeg ((fR_space rf kind (2)).toInt32)) (3 : Int32).toNatClampNeg ((fR_space rf kind (5)).toInt32))))]) [0, 1, 2] rfl
                have hD9 := hD.sub (ws' := [(h0, .inr (3, [.int 0, .ref ta, .int zs, .int po, .int fa, .ref da, .ref ra, .ref la, .long we, .long le, .int kind, .int n, .int ((fR_fits w.toInt64 (fR_space rf kind (3)) (fR_space rf kind (4))).toInt32), .ref pa, .int pl, .ref xa, .ref ya, .int mb, .ref ea, .ref wa])), (ra, .inl (cI, 28, .inl rf)), (pa, .inl (cI, 4, .inl (upd (upd (upd (upd pf (0 : Int32).toNatClampNeg ((fR_space rf kind (3)).toInt32)) (1 : Int32).toNatClampNeg ((fR_space rf kind (4)).toInt32)) (2 : Int32).toNatClampNeg ((fR_space rf kind (2)).toInt32)) (3 : Int32).toNatClampNeg ((fR_space rf kind (5)).toInt32))))]) [0, 1, 2] (by decide) rfl
                exact W.zret (v := 1) hx hb hr (by decide) (fun t ht hW => ⟨_, _, rfl, ⟨by first | rfl | (simp only [e_0, e_1, e_2, e_3, e_4, e_5]; try rfl), by first | rfl | (simp only [e_0, e_1, e_2, e_3, e_4, e_5]; try rfl)⟩, by rw [ht]; exact hP9, hD9, hS.F ht⟩) hS.2.2 dR_pattern_201
              · have c_21 := fun q => c_21 ((lg_cmp_ge _ _).mpr q)
                refine lv_iconst (v := 0) hx hb dR_pattern_128 (by decide) ?_
                have e_0 : gR_pattern rf pf pk pm co kind w h n = false := (if_pos c_1).trans ((if_pos c_6).trans ((if_pos c_11).trans ((if_pos c_16).trans ((if_neg c_21).trans (rfl)))))
                have e_1 : gR_pattern_0 rf pf pk pm co kind w h n = (0 : Int32) := (if_pos c_1).trans ((if_pos c_6).trans ((if_pos c_11).trans ((if_pos c_16).trans ((if_neg c_21).trans (rfl)))))
                have e_2 : gR_pattern_10 rf pf pk pm co kind w h n = pk := (if_pos c_1).trans ((if_pos c_6).trans ((if_pos c_11).trans ((if_pos c_16).trans ((if_neg c_21).trans (rfl)))))
                have e_3 : gR_pattern_11 rf pf pk pm co kind w h n = pm := (if_pos c_1).trans ((if_pos c_6).trans ((if_pos c_11).trans ((if_pos c_16).trans ((if_neg c_21).trans (rfl)))))
                have e_4 : gR_pattern_12 rf pf pk pm co kind w h n = co := (if_pos c_1).trans ((if_pos c_6).trans ((if_pos c_11).trans ((if_pos c_16).trans ((if_neg c_21).trans (rfl)))))
                have e_5 : gR_pattern_f rf pf pk pm co kind w h n = pf := (if_pos c_1).trans ((if_pos c_6).trans ((if_pos c_11).trans ((if_pos c_16).trans ((if_neg c_21).trans (rfl)))))
                have hP9 := hP.sub (ws' := [(h0, .inr (3, [.int 0, .ref ta, .int zs, .int po, .int fa, .ref da, .ref ra, .ref la, .long we, .long le, .int pk, .int pm, .int co, .ref pa, .int pl, .ref xa, .ref ya, .int mb, .ref ea, .ref wa])), (ra, .inl (cI, 28, .inl rf)), (pa, .inl (cI, 4, .inl pf))]) [0, 1, 2] rfl
                have hD9 := hD.sub (ws' := [(h0, .inr (3, [.int 0, .ref ta, .int zs, .int po, .int fa, .ref da, .ref ra, .ref la, .long we, .long le, .int pk, .int pm, .int co, .ref pa, .int pl, .ref xa, .ref ya, .int mb, .ref ea, .ref wa])), (ra, .inl (cI, 28, .inl rf)), (pa, .inl (cI, 4, .inl pf))]) [0, 1, 2] (by decide) rfl
                exact W.zret (v := 0) hx hb hr (by decide) (fun t ht hW => ⟨_, _, rfl, ⟨by first | rfl | (simp only [e_0, e_1, e_2, e_3, e_4, e_5]; try rfl), by first | rfl | (simp only [e_0, e_1, e_2, e_3, e_4, e_5]; try rfl)⟩, by rw [ht]; exact hP9, hD9, hS.F ht⟩) hS.2.2 dR_pattern_129
            · exact absurd c_18 (by decide)
        · have c_16 := xb_bi_f.mp c_16
          refine lv_iconst (v := 1) hx hb dR_pattern_52 (by decide) ?_
          refine lv_goto (tgt := 66) hx hb dR_pattern_53 (by decide) ?_
          refine va_put (D := (dC, dI)) (ci := 3) (v := .int 1) (ty := .int) (C := xR_R) (T := xF_R) (N := 20) hx hb hts xi_R xt_R xt_R_ok xn_R hown hK hP hD hS 0 rfl rfl 0 (by decide) (hts _ xk_646) (fun _ h9 => h9) rfl (by decide +kernel) rfl rfl (Nat.le_of_ble_eq_true rfl) dR_pattern_66 (fun H locs hP hD hS => ?_)
          have hP : va_P (dC, dI) classes [(h0, .inr (3, [.int 1, .ref ta, .int zs, .int po, .int fa, .ref da, .ref ra, .ref la, .long we, .long le, .int pk, .int pm, .int co, .ref pa, .int pl, .ref xa, .ref ya, .int mb, .ref ea, .ref wa])), (ra, .inl (cI, 28, .inl rf)), (pa, .inl (cI, 4, .inl pf))] H := hP
          have hD : va_D A [(h0, .inr (3, [.int 1, .ref ta, .int zs, .int po, .int fa, .ref da, .ref ra, .ref la, .long we, .long le, .int pk, .int pm, .int co, .ref pa, .int pl, .ref xa, .ref ya, .int mb, .ref ea, .ref wa])), (ra, .inl (cI, 28, .inl rf)), (pa, .inl (cI, 4, .inl pf))] := hD
          refine lv_aload_n hx hb dR_pattern_69 rfl (lv_at hl 1 rfl) ?_
          refine va_get (D := (dC, dI)) (ci := 3) (v := .int 1) (C := xR_R) (T := xF_R) (N := 20) hx hb hts xi_R hown hK hP 0 rfl rfl 0 (by decide) (hts _ xk_646) (fun _ h9 => h9) rfl dR_pattern_70 ?_
          refine lv_if_le (tgt := 78) hx hb dR_pattern_73 (by decide) (fun c_26 => ?_) (fun c_26 => ?_)
          · exact absurd c_26 (by decide)
          · refine lv_iconst (v := 0) hx hb dR_pattern_76 (by decide) ?_
            have e_0 : gR_pattern rf pf pk pm co kind w h n = false := (if_pos c_1).trans ((if_pos c_6).trans ((if_pos c_11).trans ((if_neg c_16).trans (rfl))))
            have e_1 : gR_pattern_0 rf pf pk pm co kind w h n = (1 : Int32) := (if_pos c_1).trans ((if_pos c_6).trans ((if_pos c_11).trans ((if_neg c_16).trans (rfl))))
            have e_2 : gR_pattern_10 rf pf pk pm co kind w h n = pk := (if_pos c_1).trans ((if_pos c_6).trans ((if_pos c_11).trans ((if_neg c_16).trans (rfl))))
            have e_3 : gR_pattern_11 rf pf pk pm co kind w h n = pm := (if_pos c_1).trans ((if_pos c_6).trans ((if_pos c_11).trans ((if_neg c_16).trans (rfl))))
            have e_4 : gR_pattern_12 rf pf pk pm co kind w h n = co := (if_pos c_1).trans ((if_pos c_6).trans ((if_pos c_11).trans ((if_neg c_16).trans (rfl))))
            have e_5 : gR_pattern_f rf pf pk pm co kind w h n = pf := (if_pos c_1).trans ((if_pos c_6).trans ((if_pos c_11).trans ((if_neg c_16).trans (rfl))))
            have hP9 := hP.sub (ws' := [(h0, .inr (3, [.int 1, .ref ta, .int zs, .int po, .int fa, .ref da, .ref ra, .ref la, .long we, .long le, .int pk, .int pm, .int co, .ref pa, .int pl, .ref xa, .ref ya, .int mb, .ref ea, .ref wa])), (ra, .inl (cI, 28, .inl rf)), (pa, .inl (cI, 4, .inl pf))]) [0, 1, 2] rfl
            have hD9 := hD.sub (ws' := [(h0, .inr (3, [.int 1, .ref ta, .int zs, .int po, .int fa, .ref da, .ref ra, .ref la, .long we, .long le, .int pk, .int pm, .int co, .ref pa, .int pl, .ref xa, .ref ya, .int mb, .ref ea, .ref wa])), (ra, .inl (cI, 28, .inl rf)), (pa, .inl (cI, 4, .inl pf))]) [0, 1, 2] (by decide) rfl
            exact W.zret (v := 0) hx hb hr (by decide) (fun t ht hW => ⟨_, _, rfl, ⟨by first | rfl | (simp only [e_0, e_1, e_2, e_3, e_4, e_5]; try rfl), by first | rfl | (simp only [e_0, e_1, e_2, e_3, e_4, e_5]; try rfl)⟩, by rw [ht]; exact hP9, hD9, hS.F ht⟩) hS.2.2 dR_pattern_77

def kR_number_39a_0 (tf : Nat → Int32) (zs : Int32) (po : Int32) (fa : Int32) : Nat → Int32 → Int32 → Int32 → Int32
  | 0, _, _, _ => default
  | n_39 + 1, va, dg, pq => if 4 ≤ dg then (if va = 0 then (va) else (va)) else (if (fR_isDigit tf zs pq) = true then (kR_number_39a_0 tf zs po fa n_39 (((10 * va) + (fR_now tf zs pq)) - 48) (dg + 1) (pq + 1)) else (if va = 0 then (va) else (va)))
def kR_number_39a_1 (tf : Nat → Int32) (zs : Int32) (po : Int32) (fa : Int32) : Nat → Int32 → Int32 → Int32 → Int32
  | 0, _, _, _ => default
  | n_39 + 1, va, dg, pq => if 4 ≤ dg then (if va = 0 then (pq) else (pq)) else (if (fR_isDigit tf zs pq) = true then (kR_number_39a_1 tf zs po fa n_39 (((10 * va) + (fR_now tf zs pq)) - 48) (dg + 1) (pq + 1)) else (if va = 0 then (pq) else (pq)))
def kR_number_39a_2 (tf : Nat → Int32) (zs : Int32) (po : Int32) (fa : Int32) : Nat → Int32 → Int32 → Int32 → Int32
  | 0, _, _, _ => default
  | n_39 + 1, va, dg, pq => if 4 ≤ dg then (if va = 0 then (po) else (gR_must_4 po fa (xb_bi (fR_isDigit tf zs po)))) else (if (fR_isDigit tf zs pq) = true then (kR_number_39a_2 tf zs po fa n_39 (((10 * va) + (fR_now tf zs pq)) - 48) (dg + 1) (pq + 1)) else (if va = 0 then (po) else (gR_must_4 po fa (xb_bi (fR_isDigit tf zs po)))))
def gR_number (tf : Nat → Int32) (zs : Int32) (po : Int32) (fa : Int32) : Int32 := if (gR_must_4 po fa (xb_bi (fR_isDigit tf zs po))) = (-1) then (kR_number_39a_0 tf zs po fa 4 ((tf po.toNatClampNeg) - 48) (1) (gR_must_3 po fa (xb_bi (fR_isDigit tf zs po)))) else ((0))
def gR_number_3 (tf : Nat → Int32) (zs : Int32) (po : Int32) (fa : Int32) : Int32 := if (gR_must_4 po fa (xb_bi (fR_isDigit tf zs po))) = (-1) then (kR_number_39a_1 tf zs po fa 4 ((tf po.toNatClampNeg) - 48) (1) (gR_must_3 po fa (xb_bi (fR_isDigit tf zs po)))) else (gR_must_3 po fa (xb_bi (fR_isDigit tf zs po)))
def gR_number_4 (tf : Nat → Int32) (zs : Int32) (po : Int32) (fa : Int32) : Int32 := if (gR_must_4 po fa (xb_bi (fR_isDigit tf zs po))) = (-1) then (kR_number_39a_2 tf zs po fa 4 ((tf po.toNatClampNeg) - 48) (1) (gR_must_3 po fa (xb_bi (fR_isDigit tf zs po)))) else (gR_must_4 po fa (xb_bi (fR_isDigit tf zs po)))
set_option maxHeartbeats 4000000 in
set_option maxRecDepth 100000 in
theorem cR_number (l : Launch) {s0 : State} {dC : Nat → ClassId} {dI : Nat → Nat → Nat} {cI cC cL cO : ClassId} (E : xb_Env l s0 dC dI (xtys cI cC cL cO)) (sz : Nat) (h0 : Nat) (ta : Nat) (th : Int32) (zs : Int32) (po : Int32) (fa : Int32) (da : Nat) (ra : Nat) (la : Nat) (we : Int64) (le : Int64) (pk : Int32) (pm : Int32) (co : Int32) (pa : Nat) (pl : Int32) (xa : Nat) (ya : Nat) (mb : Int32) (ea : Nat) (wa : Nat) (tf : Nat → Int32) (hp9 : ∃ b : Nat, po = nI b ∧ b ≤ 200) (hs9 : zs ≤ 200) (hfa : fa = (-1)) : Met l yR_number [.code yR_number bR_number 4 (some (.int))] ({ frames := 2, cells := 0, slots := 0, locals := 40 }) (va_Pc [.ref h0] (fun U => xb_At s0 U ∧ U.heap.size = sz ∧ va_P (dC, dI) classes [(h0, .inr (3, [.int th, .ref ta, .int zs, .int po, .int fa, .ref da, .ref ra, .ref la, .long we, .long le, .int pk, .int pm, .int co, .ref pa, .int pl, .ref xa, .ref ya, .int mb, .ref ea, .ref wa])), (ta, .inl (cI, 200, .inl tf))] U.heap ∧ va_D (fun q => s0.heap.size ≤ q) [(h0, .inr (3, [.int th, .ref ta, .int zs, .int po, .int fa, .ref da, .ref ra, .ref la, .long we, .long le, .int pk, .int pm, .int co, .ref pa, .int pl, .ref xa, .ref ya, .int mb, .ref ea, .ref wa])), (ta, .inl (cI, 200, .inl tf))])) (xb_W (dC, dI) (fun v9 w9 => v9 = some (.int (gR_number tf zs po fa)) ∧ w9 = [(h0, .inr (3, [.int th, .ref ta, .int zs, .int (gR_number_3 tf zs po fa), .int (gR_number_4 tf zs po fa), .ref da, .ref ra, .ref la, .long we, .long le, .int pk, .int pm, .int co, .ref pa, .int pl, .ref xa, .ref ya, .int mb, .ref ea, .ref wa])), (ta, .inl (cI, 200, .inl tf))]) (va_A [(h0, .inr (3, [.int th, .ref ta, .int zs, .int po, .int fa, .ref da, .ref ra, .ref la, .long we, .long le, .int pk, .int pm, .int co, .ref pa, .int pl, .ref xa, .ref ya, .int mb, .ref ea, .ref wa])), (ta, .inl (cI, 200, .inl tf))] sz)) 0 0 (va_A [(h0, .inr (3, [.int th, .ref ta, .int zs, .int po, .int fa, .ref da, .ref ra, .ref la, .long we, .long le, .int pk, .int pm, .int co, .ref pa, .int pl, .ref xa, .ref ya, .int mb, .ref ea, .ref wa])), (ta, .inl (cI, 200, .inl tf))] sz) := by
  refine Met.ofW (cc := bR_number) (maxL := 4) (ret := (some (.int))) (by decide) rfl ?_
  intro p e s m args below meth c s₁ B hml hv
  obtain ⟨rfl, hAt, hsz, hP, hD0⟩ := hv
  have hx := B.exec
  have hb := B.bytes
  have hr := B.returns
  have hts := xb_hts E hAt ([.ref h0] : List Value).toArray
  have hown : s.vm.findClass "NailRulesModel" = some m.cls := findClass_of_methodNamed B.named
  have hlocks := B.notSynchronized
  have hK := xb_K E hAt
  subst hsz
  have hA0 := xb_A0 hAt hD0
  have hD := hD0.self (sz := s.heap.size)
  generalize hAe : va_A [(h0, .inr (3, [.int th, .ref ta, .int zs, .int po, .int fa, .ref da, .ref ra, .ref la, .long we, .long le, .int pk, .int pm, .int co, .ref pa, .int pl, .ref xa, .ref ya, .int mb, .ref ea, .ref wa])), (ta, .inl (cI, 200, .inl tf))] s.heap.size = A at hD hA0 ⊢
  have hA : ∀ q : Nat, s.heap.size ≤ q → A q := fun q h => by rw [← hAe]; exact Or.inr h
  have hS : va_S A s.heap s.heap [] := va_S.rf
  have hl := lv_entry ([.ref h0]) (n := 4) (Nat.le_of_ble_eq_true rfl)
  rw [lg_entry_eq]
  generalize (lg_sl ([.ref h0]) ++ List.replicate (4 - (lg_sl ([.ref h0])).length) Slot.unset).toArray = ls at hl ⊢
  have hl : lv_has ls 4 [(0, .ref h0)] := hl
  refine lv_aload_n hx hb dR_number_0 rfl (lv_at hl 0 rfl) ?_
  refine va_get (D := (dC, dI)) (ci := 3) (v := .int po) (C := xR_R) (T := xF_R) (N := 20) hx hb hts xi_R hown hK hP 0 rfl rfl 3 (by decide) (hts _ xk_649) (fun _ h9 => h9) rfl dR_number_1 ?_
  refine lv_istore_n (lv' := [(1, .int po), (0, .ref h0)]) hx hb dR_number_4 rfl hl (by decide) rfl (fun ls hl => ?_)
  refine lv_iconst (v := 0) hx hb dR_number_5 (by decide) ?_
  refine lv_istore_n (lv' := [(2, .int 0), (1, .int po), (0, .ref h0)]) hx hb dR_number_6 rfl hl (by decide) rfl (fun ls hl => ?_)
  refine lv_iconst (v := 0) hx hb dR_number_7 (by decide) ?_
  refine lv_istore_n (lv' := [(3, .int 0), (2, .int 0), (1, .int po), (0, .ref h0)]) hx hb dR_number_8 rfl hl (by decide) rfl (fun ls hl => ?_)
  refine lv_aload_n hx hb dR_number_9 rfl (lv_at hl 3 rfl) ?_
  refine lv_aload_n hx hb dR_number_10 rfl (lv_at hl 3 rfl) ?_
  refine xb_rd (W.runV (C := "NailRulesModel") (As := []) (rest := [.ref h0]) ⟨hx, hb, hml, hown, hts⟩ (cR_isDigit l E h0 ([.int th, .ref ta, .int zs, .int po, .int fa, .ref da, .ref ra, .ref la, .long we, .long le, .int pk, .int pm, .int co, .ref pa, .int pl, .ref xa, .ref ya, .int mb, .ref ea, .ref wa]) ta tf zs po rfl rfl rfl (xn_0 hp9 (by decide)) (hs9)) (cwV 0 hts (xb_gi (List.forall_mem_cons.mpr ⟨xk_742, List.forall_mem_cons.mpr ⟨xk_744, List.forall_mem_cons.mpr ⟨xk_33, List.forall_mem_cons.mpr ⟨xk_45, List.forall_mem_cons.mpr ⟨xk_745, fun _ h => absurd h List.not_mem_nil⟩⟩⟩⟩⟩)) rfl rfl rfl (by decide +kernel) ⟨Nat.le_of_ble_eq_true rfl, Nat.le_of_ble_eq_true rfl⟩) ⟨fun _ _ _ _ q => q, va_recv hK hP (ci := 3) (q0 := 0) rfl rfl, fun U hU hW => ⟨rfl, xb_atS hAt hS hA0 hU hW, by rw [hU]; exact hP.sub (ws' := [(h0, .inr (3, [.int th, .ref ta, .int zs, .int po, .int fa, .ref da, .ref ra, .ref la, .long we, .long le, .int pk, .int pm, .int co, .ref pa, .int pl, .ref xa, .ref ya, .int mb, .ref ea, .ref wa])), (ta, .inl (cI, 200, .inl tf))]) [0, 1] rfl⟩⟩ rfl rfl hl.1 rfl (lv_room (Nat.le_of_ble_eq_true rfl)) dR_number_11 ⟨Nat.zero_le _, Nat.zero_le _⟩) ?_
  refine xb_wr (wr := [(ta, .inl (cI, 200, .inl tf))]) (va_runV (C := "NailRulesModel") (As := [.int (xb_bi (fR_isDigit tf zs po))]) (rest := []) ⟨hx, hb, hml, hown, hts⟩ (cR_must l E _ h0 th ta zs po fa da ra la we le pk pm co pa pl xa ya mb ea wa (xb_bi (fR_isDigit tf zs po))) (cwV 1 hts (xb_gi (List.forall_mem_cons.mpr ⟨xk_722, List.forall_mem_cons.mpr ⟨xk_724, List.forall_mem_cons.mpr ⟨xk_28, List.forall_mem_cons.mpr ⟨xk_45, List.forall_mem_cons.mpr ⟨xk_725, fun _ h => absurd h List.not_mem_nil⟩⟩⟩⟩⟩)) rfl rfl rfl (by decide +kernel) ⟨Nat.le_of_ble_eq_true rfl, Nat.le_of_ble_eq_true rfl⟩) ⟨fun _ _ _ _ q => q, va_recv hK hP (ci := 3) (q0 := 0) rfl rfl, fun U hU hW => ⟨rfl, xb_atS hAt hS hA0 hU hW, by rw [hU], by rw [hU]; exact hP.sub (ws' := [(h0, .inr (3, [.int th, .ref ta, .int zs, .int po, .int fa, .ref da, .ref ra, .ref la, .long we, .long le, .int pk, .int pm, .int co, .ref pa, .int pl, .ref xa, .ref ya, .int mb, .ref ea, .ref wa]))]) [0] rfl, (hD.sub (ws' := [(h0, .inr (3, [.int th, .ref ta, .int zs, .int po, .int fa, .ref da, .ref ra, .ref la, .long we, .long le, .int pk, .int pm, .int co, .ref pa, .int pl, .ref xa, .ref ya, .int mb, .ref ea, .ref wa]))]) [0] (by decide) rfl).weaken (fun _ q _ h => hA0 q.1 h)⟩⟩ rfl rfl hl.1 rfl (lv_room (Nat.le_of_ble_eq_true rfl)) dR_number_14 ⟨Nat.le_of_ble_eq_true rfl, Nat.le_of_ble_eq_true rfl⟩) hP hD hS hA [0] [1] rfl rfl (by decide) (by decide) ?_
  rintro _ _ H locs ⟨rfl, rfl⟩ hP hD hS
  have hP : va_P (dC, dI) classes [(ta, .inl (cI, 200, .inl tf)), (h0, .inr (3, [.int th, .ref ta, .int zs, .int (gR_must_3 po fa (xb_bi (fR_isDigit tf zs po))), .int (gR_must_4 po fa (xb_bi (fR_isDigit tf zs po))), .ref da, .ref ra, .ref la, .long we, .long le, .int pk, .int pm, .int co, .ref pa, .int pl, .ref xa, .ref ya, .int mb, .ref ea, .ref wa]))] H := hP
  have hD : va_D A [(ta, .inl (cI, 200, .inl tf)), (h0, .inr (3, [.int th, .ref ta, .int zs, .int (gR_must_3 po fa (xb_bi (fR_isDigit tf zs po))), .int (gR_must_4 po fa (xb_bi (fR_isDigit tf zs po))), .ref da, .ref ra, .ref la, .long we, .long le, .int pk, .int pm, .int co, .ref pa, .int pl, .ref xa, .ref ya, .int mb, .ref ea, .ref wa]))] := hD
  refine lv_aload_n hx hb dR_number_17 rfl (lv_at hl 3 rfl) ?_
  refine va_get (D := (dC, dI)) (ci := 3) (v := .int (gR_must_4 po fa (xb_bi (fR_isDigit tf zs po)))) (C := xR_R) (T := xF_R) (N := 20) hx hb hts xi_R hown hK hP 1 rfl rfl 4 (by decide) (hts _ xk_650) (fun _ h9 => h9) rfl dR_number_18 ?_
  refine lv_iconst (v := (-1)) hx hb dR_number_21 (by decide) ?_
  refine lv_icmp_eq (tgt := 27) hx hb dR_number_22 (by decide) (fun c_1 => ?_) (fun c_1 => ?_)
  · refine lv_aload_n hx hb dR_number_27 rfl (lv_at hl 3 rfl) ?_
    refine va_get (D := (dC, dI)) (ci := 3) (v := .ref ta) (C := xR_R) (T := xF_R) (N := 20) hx hb hts xi_R hown hK hP 1 rfl rfl 1 (by decide) (hts _ xk_647) (fun _ h9 => h9) rfl dR_number_28 ?_
    refine lv_iload_n hx hb dR_number_31 rfl (lv_at hl 2 rfl) ?_
    have o_2 : vp_in po 200 := by exact xn_1 hp9 hs9 hfa c_1
    refine va_iald hx hb hK hP 0 0 rfl rfl o_2 dR_number_32 ?_
    refine lv_bipush (v := 48) hx hb dR_number_33 (by decide) ?_
    refine lv_isub hx hb dR_number_35 ?_
    refine lv_istore_n (lv' := [(2, .int ((tf po.toNatClampNeg) - 48)), (3, .int 0), (1, .int po), (0, .ref h0)]) hx hb dR_number_36 rfl hl (by decide) rfl (fun ls hl => ?_)
    refine lv_iconst (v := 1) hx hb dR_number_37 (by decide) ?_
    refine lv_istore_n (lv' := [(3, .int 1), (2, .int ((tf po.toNatClampNeg) - 48)), (1, .int po), (0, .ref h0)]) hx hb dR_number_38 rfl hl (by decide) rfl (fun ls hl => ?_)
    have lp_39 : ∀ (n_39 : Nat) (va : Int32) (dg : Int32) (pq : Int32), (xl_c 1 4 n_39 dg ∧ ∃ b : Nat, pq = nI b ∧ b + n_39 ≤ 210) → gR_number tf zs po fa = kR_number_39a_0 tf zs po fa n_39 va dg pq → gR_number_3 tf zs po fa = kR_number_39a_1 tf zs po fa n_39 va dg pq → gR_number_4 tf zs po fa = kR_number_39a_2 tf zs po fa n_39 va dg pq → ∀ (H : Heap) (locs : List Loc), va_P (dC, dI) classes [(ta, .inl (cI, 200, .inl tf)), (h0, .inr (3, [.int th, .ref ta, .int zs, .int pq, .int (gR_must_4 po fa (xb_bi (fR_isDigit tf zs po))), .ref da, .ref ra, .ref la, .long we, .long le, .int pk, .int pm, .int co, .ref pa, .int pl, .ref xa, .ref ya, .int mb, .ref ea, .ref wa]))] H → va_D A [(ta, .inl (cI, 200, .inl tf)), (h0, .inr (3, [.int th, .ref ta, .int zs, .int pq, .int (gR_must_4 po fa (xb_bi (fR_isDigit tf zs po))), .ref da, .ref ra, .ref la, .long we, .long le, .int pk, .int pm, .int co, .ref pa, .int pl, .ref xa, .ref ya, .int mb, .ref ea, .ref wa]))] → va_S A s.heap H locs → ∀ ls : Array Slot, lv_has ls 4 [(2, .int va), (3, .int dg), (1, .int po), (0, .ref h0)] → W p l e (headSpec [.code yR_number bR_number 4 (some (.int))] ({ frames := 2, cells := 0, slots := 0, locals := 40 })).room s m ([.ref h0] : List Value).toArray below meth c H locs 0 0 (MQ below (xb_W (dC, dI) (fun v9 w9 => v9 = some (.int (gR_number tf zs po fa)) ∧ w9 = [(h0, .inr (3, [.int th, .ref ta, .int zs, .int (gR_number_3 tf zs po fa), .int (gR_number_4 tf zs po fa), .ref da, .ref ra, .ref la, .long we, .long le, .int pk, .int pm, .int co, .ref pa, .int pl, .ref xa, .ref ya, .int mb, .ref ea, .ref wa])), (ta, .inl (cI, 200, .inl tf))]) A) ([.ref h0] : List Value).toArray s 0 0 A) (F0 m 39 ls []) := by
      intro n_39
      induction n_39 with
      | zero =>
        intro va dg pq hinv_39
        exact xl_0 hinv_39.1
      | succ n_39 ih_39 =>
        intro va dg pq hinv_39 hres_39_0 hres_39_1 hres_39_2 H locs hP hD hS ls hl
        refine lv_iload_n hx hb dR_number_39 rfl (lv_at hl 1 rfl) ?_
        refine lv_iconst (v := 4) hx hb dR_number_40 (by decide) ?_
        refine lv_icmp_ge (tgt := 80) hx hb dR_number_41 (by decide) (fun c_4 => ?_) (fun c_4 => ?_)
        · refine lv_iload_n hx hb dR_number_80 rfl (lv_at hl 0 rfl) ?_
          refine lv_if_ne (tgt := 89) hx hb dR_number_81 (by decide) (fun c_5 => ?_) (fun c_5 => ?_)
          · refine lv_iload_n hx hb dR_number_89 rfl (lv_at hl 0 rfl) ?_
            have e_0 : gR_number tf zs po fa = va := hres_39_0.trans ((if_pos c_4).trans ((if_neg c_5).trans (rfl)))
            have e_1 : gR_number_3 tf zs po fa = pq := hres_39_1.trans ((if_pos c_4).trans ((if_neg c_5).trans (rfl)))
            have e_2 : gR_number_4 tf zs po fa = (gR_must_4 po fa (xb_bi (fR_isDigit tf zs po))) := hres_39_2.trans ((if_pos c_4).trans ((if_neg c_5).trans (rfl)))
            have hP9 := hP.sub (ws' := [(h0, .inr (3, [.int th, .ref ta, .int zs, .int pq, .int (gR_must_4 po fa (xb_bi (fR_isDigit tf zs po))), .ref da, .ref ra, .ref la, .long we, .long le, .int pk, .int pm, .int co, .ref pa, .int pl, .ref xa, .ref ya, .int mb, .ref ea, .ref wa])), (ta, .inl (cI, 200, .inl tf))]) [1, 0] rfl
            have hD9 := hD.sub (ws' := [(h0, .inr (3, [.int th, .ref ta, .int zs, .int pq, .int (gR_must_4 po fa (xb_bi (fR_isDigit tf zs po))), .ref da, .ref ra, .ref la, .long we, .long le, .int pk, .int pm, .int co, .ref pa, .int pl, .ref xa, .ref ya, .int mb, .ref ea, .ref wa])), (ta, .inl (cI, 200, .inl tf))]) [1, 0] (by decide) rfl
            exact W.iret (v := va) hx hb hr (fun t ht hW => ⟨_, _, rfl, ⟨by first | rfl | (simp only [e_0, e_1, e_2]; try rfl), by first | rfl | (simp only [e_0, e_1, e_2]; try rfl)⟩, by rw [ht]; exact hP9, hD9, hS.F ht⟩) hS.2.2 dR_number_90
          · refine lv_aload_n hx hb dR_number_84 rfl (lv_at hl 3 rfl) ?_
            refine lv_iload_n hx hb dR_number_85 rfl (lv_at hl 2 rfl) ?_
            refine va_put (D := (dC, dI)) (ci := 3) (v := .int po) (ty := .int) (C := xR_R) (T := xF_R) (N := 20) hx hb hts xi_R xt_R xt_R_ok xn_R hown hK hP hD hS 1 rfl rfl 4 (by decide) (hts _ xk_650) (fun _ h9 => h9) rfl (by decide +kernel) rfl rfl (Nat.le_of_ble_eq_true rfl) dR_number_86 (fun H locs hP hD hS => ?_)
            have hP : va_P (dC, dI) classes [(ta, .inl (cI, 200, .inl tf)), (h0, .inr (3, [.int th, .ref ta, .int zs, .int pq, .int po, .ref da, .ref ra, .ref la, .long we, .long le, .int pk, .int pm, .int co, .ref pa, .int pl, .ref xa, .ref ya, .int mb, .ref ea, .ref wa]))] H := hP
            have hD : va_D A [(ta, .inl (cI, 200, .inl tf)), (h0, .inr (3, [.int th, .ref ta, .int zs, .int pq, .int po, .ref da, .ref ra, .ref la, .long we, .long le, .int pk, .int pm, .int co, .ref pa, .int pl, .ref xa, .ref ya, .int mb, .ref ea, .ref wa]))] := hD
            refine lv_iload_n hx hb dR_number_89 rfl (lv_at hl 0 rfl) ?_
            have e_0 : gR_number tf zs po fa = va := hres_39_0.trans ((if_pos c_4).trans ((if_pos c_5).trans (rfl)))
            have e_1 : gR_number_3 tf zs po fa = pq := hres_39_1.trans ((if_pos c_4).trans ((if_pos c_5).trans (rfl)))
            have e_2 : gR_number_4 tf zs po fa = po := hres_39_2.trans ((if_pos c_4).trans ((if_pos c_5).trans (rfl)))
            have hP9 := hP.sub (ws' := [(h0, .inr (3, [.int th, .ref ta, .int zs, .int pq, .int po, .ref da, .ref ra, .ref la, .long we, .long le, .int pk, .int pm, .int co, .ref pa, .int pl, .ref xa, .ref ya, .int mb, .ref ea, .ref wa])), (ta, .inl (cI, 200, .inl tf))]) [1, 0] rfl
            have hD9 := hD.sub (ws' := [(h0, .inr (3, [.int th, .ref ta, .int zs, .int pq, .int po, .ref da, .ref ra, .ref la, .long we, .long le, .int pk, .int pm, .int co, .ref pa, .int pl, .ref xa, .ref ya, .int mb, .ref ea, .ref wa])), (ta, .inl (cI, 200, .inl tf))]) [1, 0] (by decide) rfl
            exact W.iret (v := va) hx hb hr (fun t ht hW => ⟨_, _, rfl, ⟨by first | rfl | (simp only [e_0, e_1, e_2]; try rfl), by first | rfl | (simp only [e_0, e_1, e_2]; try rfl)⟩, by rw [ht]; exact hP9, hD9, hS.F ht⟩) hS.2.2 dR_number_90
        · refine lv_aload_n hx hb dR_number_44 rfl (lv_at hl 3 rfl) ?_
          refine xb_rd (W.runV (C := "NailRulesModel") (As := []) (rest := []) ⟨hx, hb, hml, hown, hts⟩ (cR_isDigit l E h0 ([.int th, .ref ta, .int zs, .int pq, .int (gR_must_4 po fa (xb_bi (fR_isDigit tf zs po))), .ref da, .ref ra, .ref la, .long we, .long le, .int pk, .int pm, .int co, .ref pa, .int pl, .ref xa, .ref ya, .int mb, .ref ea, .ref wa]) ta tf zs pq rfl rfl rfl (xn_00 hinv_39.2) (hs9)) (cwV 0 hts (xb_gi (List.forall_mem_cons.mpr ⟨xk_742, List.forall_mem_cons.mpr ⟨xk_744, List.forall_mem_cons.mpr ⟨xk_33, List.forall_mem_cons.mpr ⟨xk_45, List.forall_mem_cons.mpr ⟨xk_745, fun _ h => absurd h List.not_mem_nil⟩⟩⟩⟩⟩)) rfl rfl rfl (by decide +kernel) ⟨Nat.le_of_ble_eq_true rfl, Nat.le_of_ble_eq_true rfl⟩) ⟨fun _ _ _ _ q => q, va_recv hK hP (ci := 3) (q0 := 1) rfl rfl, fun U hU hW => ⟨rfl, xb_atS hAt hS hA0 hU hW, by rw [hU]; exact hP.sub (ws' := [(h0, .inr (3, [.int th, .ref ta, .int zs, .int pq, .int (gR_must_4 po fa (xb_bi (fR_isDigit tf zs po))), .ref da, .ref ra, .ref la, .long we, .long le, .int pk, .int pm, .int co, .ref pa, .int pl, .ref xa, .ref ya, .int mb, .ref ea, .ref wa])), (ta, .inl (cI, 200, .inl tf))]) [1, 0] rfl⟩⟩ rfl rfl hl.1 rfl (lv_room (Nat.le_of_ble_eq_true rfl)) dR_number_45 ⟨Nat.zero_le _, Nat.zero_le _⟩) ?_
          refine lv_if_eq (tgt := 80) hx hb dR_number_48 (by decide) (fun c_6 => ?_) (fun c_6 => ?_)
          · have c_6 := xb_bi_f.mp c_6
            refine lv_iload_n hx hb dR_number_80 rfl (lv_at hl 0 rfl) ?_
            refine lv_if_ne (tgt := 89) hx hb dR_number_81 (by decide) (fun c_7 => ?_) (fun c_7 => ?_)
            · refine lv_iload_n hx hb dR_number_89 rfl (lv_at hl 0 rfl) ?_
              have e_0 : gR_number tf zs po fa = va := hres_39_0.trans ((if_neg c_4).trans ((if_neg c_6).trans ((if_neg c_7).trans (rfl))))
              have e_1 : gR_number_3 tf zs po fa = pq := hres_39_1.trans ((if_neg c_4).trans ((if_neg c_6).trans ((if_neg c_7).trans (rfl))))
              have e_2 : gR_number_4 tf zs po fa = (gR_must_4 po fa (xb_bi (fR_isDigit tf zs po))) := hres_39_2.trans ((if_neg c_4).trans ((if_neg c_6).trans ((if_neg c_7).trans (rfl))))
              have hP9 := hP.sub (ws' := [(h0, .inr (3, [.int th, .ref ta, .int zs, .int pq, .int (gR_must_4 po fa (xb_bi (fR_isDigit tf zs po))), .ref da, .ref ra, .ref la, .long we, .long le, .int pk, .int pm, .int co, .ref pa, .int pl, .ref xa, .ref ya, .int mb, .ref ea, .ref wa])), (ta, .inl (cI, 200, .inl tf))]) [1, 0] rfl
              have hD9 := hD.sub (ws' := [(h0, .inr (3, [.int th, .ref ta, .int zs, .int pq, .int (gR_must_4 po fa (xb_bi (fR_isDigit tf zs po))), .ref da, .ref ra, .ref la, .long we, .long le, .int pk, .int pm, .int co, .ref pa, .int pl, .ref xa, .ref ya, .int mb, .ref ea, .ref wa])), (ta, .inl (cI, 200, .inl tf))]) [1, 0] (by decide) rfl
              exact W.iret (v := va) hx hb hr (fun t ht hW => ⟨_, _, rfl, ⟨by first | rfl | (simp only [e_0, e_1, e_2]; try rfl), by first | rfl | (simp only [e_0, e_1, e_2]; try rfl)⟩, by rw [ht]; exact hP9, hD9, hS.F ht⟩) hS.2.2 dR_number_90
            · refine lv_aload_n hx hb dR_number_84 rfl (lv_at hl 3 rfl) ?_
              refine lv_iload_n hx hb dR_number_85 rfl (lv_at hl 2 rfl) ?_
              refine va_put (D := (dC, dI)) (ci := 3) (v := .int po) (ty := .int) (C := xR_R) (T := xF_R) (N := 20) hx hb hts xi_R xt_R xt_R_ok xn_R hown hK hP hD hS 1 rfl rfl 4 (by decide) (hts _ xk_650) (fun _ h9 => h9) rfl (by decide +kernel) rfl rfl (Nat.le_of_ble_eq_true rfl) dR_number_86 (fun H locs hP hD hS => ?_)
              have hP : va_P (dC, dI) classes [(ta, .inl (cI, 200, .inl tf)), (h0, .inr (3, [.int th, .ref ta, .int zs, .int pq, .int po, .ref da, .ref ra, .ref la, .long we, .long le, .int pk, .int pm, .int co, .ref pa, .int pl, .ref xa, .ref ya, .int mb, .ref ea, .ref wa]))] H := hP
              have hD : va_D A [(ta, .inl (cI, 200, .inl tf)), (h0, .inr (3, [.int th, .ref ta, .int zs, .int pq, .int po, .ref da, .ref ra, .ref la, .long we, .long le, .int pk, .int pm, .int co, .ref pa, .int pl, .ref xa, .ref ya, .int mb, .ref ea, .ref wa]))] := hD
              refine lv_iload_n hx hb dR_number_89 rfl (lv_at hl 0 rfl) ?_
              have e_0 : gR_number tf zs po fa = va := hres_39_0.trans ((if_neg c_4).trans ((if_neg c_6).trans ((if_pos c_7).trans (rfl))))
              have e_1 : gR_number_3 tf zs po fa = pq := hres_39_1.trans ((if_neg c_4).trans ((if_neg c_6).trans ((if_pos c_7).trans (rfl))))
              have e_2 : gR_number_4 tf zs po fa = po := hres_39_2.trans ((if_neg c_4).trans ((if_neg c_6).trans ((if_pos c_7).trans (rfl))))
              have hP9 := hP.sub (ws' := [(h0, .inr (3, [.int th, .ref ta, .int zs, .int pq, .int po, .ref da, .ref ra, .ref la, .long we, .long le, .int pk, .int pm, .int co, .ref pa, .int pl, .ref xa, .ref ya, .int mb, .ref ea, .ref wa])), (ta, .inl (cI, 200, .inl tf))]) [1, 0] rfl
              have hD9 := hD.sub (ws' := [(h0, .inr (3, [.int th, .ref ta, .int zs, .int pq, .int po, .ref da, .ref ra, .ref la, .long we, .long le, .int pk, .int pm, .int co, .ref pa, .int pl, .ref xa, .ref ya, .int mb, .ref ea, .ref wa])), (ta, .inl (cI, 200, .inl tf))]) [1, 0] (by decide) rfl
              exact W.iret (v := va) hx hb hr (fun t ht hW => ⟨_, _, rfl, ⟨by first | rfl | (simp only [e_0, e_1, e_2]; try rfl), by first | rfl | (simp only [e_0, e_1, e_2]; try rfl)⟩, by rw [ht]; exact hP9, hD9, hS.F ht⟩) hS.2.2 dR_number_90
          · have c_6 := xb_bi_t.mp c_6
            refine lv_bipush (v := 10) hx hb dR_number_51 (by decide) ?_
            refine lv_iload_n hx hb dR_number_53 rfl (lv_at hl 0 rfl) ?_
            refine lv_imul hx hb dR_number_54 ?_
            refine lv_aload_n hx hb dR_number_55 rfl (lv_at hl 3 rfl) ?_
            refine xb_rd (W.runV (C := "NailRulesModel") (As := []) (rest := [.int (10 * va)]) ⟨hx, hb, hml, hown, hts⟩ (cR_now l E h0 ([.int th, .ref ta, .int zs, .int pq, .int (gR_must_4 po fa (xb_bi (fR_isDigit tf zs po))), .ref da, .ref ra, .ref la, .long we, .long le, .int pk, .int pm, .int co, .ref pa, .int pl, .ref xa, .ref ya, .int mb, .ref ea, .ref wa]) ta tf zs pq rfl rfl rfl (xn_00 hinv_39.2) (hs9)) (cwV 0 hts (xb_gi (List.forall_mem_cons.mpr ⟨xk_715, List.forall_mem_cons.mpr ⟨xk_717, List.forall_mem_cons.mpr ⟨xk_27, List.forall_mem_cons.mpr ⟨xk_45, List.forall_mem_cons.mpr ⟨xk_718, fun _ h => absurd h List.not_mem_nil⟩⟩⟩⟩⟩)) rfl rfl rfl (by decide +kernel) ⟨Nat.le_of_ble_eq_true rfl, Nat.le_of_ble_eq_true rfl⟩) ⟨fun _ _ _ _ q => q, va_recv hK hP (ci := 3) (q0 := 1) rfl rfl, fun U hU hW => ⟨rfl, xb_atS hAt hS hA0 hU hW, by rw [hU]; exact hP.sub (ws' := [(h0, .inr (3, [.int th, .ref ta, .int zs, .int pq, .int (gR_must_4 po fa (xb_bi (fR_isDigit tf zs po))), .ref da, .ref ra, .ref la, .long we, .long le, .int pk, .int pm, .int co, .ref pa, .int pl, .ref xa, .ref ya, .int mb, .ref ea, .ref wa])), (ta, .inl (cI, 200, .inl tf))]) [1, 0] rfl⟩⟩ rfl rfl hl.1 rfl (lv_room (Nat.le_of_ble_eq_true rfl)) dR_number_56 ⟨Nat.zero_le _, Nat.zero_le _⟩) ?_
            refine lv_iadd hx hb dR_number_59 ?_
            refine lv_bipush (v := 48) hx hb dR_number_60 (by decide) ?_
            refine lv_isub hx hb dR_number_62 ?_
            refine lv_istore_n (lv' := [(2, .int (((10 * va) + (fR_now tf zs pq)) - 48)), (3, .int dg), (1, .int po), (0, .ref h0)]) hx hb dR_number_63 rfl hl (by decide) rfl (fun ls hl => ?_)
            refine lv_aload_n hx hb dR_number_64 rfl (lv_at hl 3 rfl) ?_
            refine lv_dup hx hb dR_number_65 rfl ?_
            refine va_get (D := (dC, dI)) (ci := 3) (v := .int pq) (C := xR_R) (T := xF_R) (N := 20) hx hb hts xi_R hown hK hP 1 rfl rfl 3 (by decide) (hts _ xk_649) (fun _ h9 => h9) rfl dR_number_66 ?_
            refine lv_iconst (v := 1) hx hb dR_number_69 (by decide) ?_
            refine lv_iadd hx hb dR_number_70 ?_
            refine va_put (D := (dC, dI)) (ci := 3) (v := .int (pq + 1)) (ty := .int) (C := xR_R) (T := xF_R) (N := 20) hx hb hts xi_R xt_R xt_R_ok xn_R hown hK hP hD hS 1 rfl rfl 3 (by decide) (hts _ xk_649) (fun _ h9 => h9) rfl (by decide +kernel) rfl rfl (Nat.le_of_ble_eq_true rfl) dR_number_71 (fun H locs hP hD hS => ?_)
            have hP : va_P (dC, dI) classes [(ta, .inl (cI, 200, .inl tf)), (h0, .inr (3, [.int th, .ref ta, .int zs, .int (pq + 1), .int (gR_must_4 po fa (xb_bi (fR_isDigit tf zs po))), .ref da, .ref ra, .ref la, .long we, .long le, .int pk, .int pm, .int co, .ref pa, .int pl, .ref xa, .ref ya, .int mb, .ref ea, .ref wa]))] H := hP
            have hD : va_D A [(ta, .inl (cI, 200, .inl tf)), (h0, .inr (3, [.int th, .ref ta, .int zs, .int (pq + 1), .int (gR_must_4 po fa (xb_bi (fR_isDigit tf zs po))), .ref da, .ref ra, .ref la, .long we, .long le, .int pk, .int pm, .int co, .ref pa, .int pl, .ref xa, .ref ya, .int mb, .ref ea, .ref wa]))] := hD
            refine lv_iinc (v := dg + 1) (lv' := [(3, .int (dg + 1)), (2, .int (((10 * va) + (fR_now tf zs pq)) - 48)), (1, .int po), (0, .ref h0)]) hx hb dR_number_74 hl (k := 1) rfl rfl (by decide) rfl (fun ls hl => ?_)
            refine lv_goto (tgt := 39) hx hb dR_number_77 (by decide) ?_
            have v_inv : xl_c 1 4 n_39 (dg + 1) ∧ ∃ b : Nat, (pq + 1) = nI b ∧ b + n_39 ≤ 210 := ⟨xl_s1 (b := 4) hinv_39.1 (by decide) (by decide) c_4, xn_t hinv_39.2⟩
            have v_0 : gR_number tf zs po fa = kR_number_39a_0 tf zs po fa n_39 (((10 * va) + (fR_now tf zs pq)) - 48) (dg + 1) (pq + 1) := hres_39_0.trans ((if_neg c_4).trans ((if_pos c_6).trans (rfl)))
            have v_1 : gR_number_3 tf zs po fa = kR_number_39a_1 tf zs po fa n_39 (((10 * va) + (fR_now tf zs pq)) - 48) (dg + 1) (pq + 1) := hres_39_1.trans ((if_neg c_4).trans ((if_pos c_6).trans (rfl)))
            have v_2 : gR_number_4 tf zs po fa = kR_number_39a_2 tf zs po fa n_39 (((10 * va) + (fR_now tf zs pq)) - 48) (dg + 1) (pq + 1) := hres_39_2.trans ((if_neg c_4).trans ((if_pos c_6).trans (rfl)))
            exact ih_39 (((10 * va) + (fR_now tf zs pq)) - 48) (dg + 1) (pq + 1) v_inv v_0 v_1 v_2 _ _ (hP.sub (ws' := [(ta, .inl (cI, 200, .inl tf)), (h0, .inr (3, [.int th, .ref ta, .int zs, .int (pq + 1), .int (gR_must_4 po fa (xb_bi (fR_isDigit tf zs po))), .ref da, .ref ra, .ref la, .long we, .long le, .int pk, .int pm, .int co, .ref pa, .int pl, .ref xa, .ref ya, .int mb, .ref ea, .ref wa]))]) [0, 1] rfl) (hD.sub (ws' := [(ta, .inl (cI, 200, .inl tf)), (h0, .inr (3, [.int th, .ref ta, .int zs, .int (pq + 1), .int (gR_must_4 po fa (xb_bi (fR_isDigit tf zs po))), .ref da, .ref ra, .ref la, .long we, .long le, .int pk, .int pm, .int co, .ref pa, .int pl, .ref xa, .ref ya, .int mb, .ref ea, .ref wa]))]) [0, 1] (by decide) rfl) hS ls (lv_sub hl [1, 0, 2, 3] rfl)
    have v_inv : xl_c 1 4 4 (1 : Int32) ∧ ∃ b : Nat, (gR_must_3 po fa (xb_bi (fR_isDigit tf zs po))) = nI b ∧ b + 4 ≤ 210 := ⟨⟨1, rfl, by omega, by omega, by omega⟩, xn_s hp9 hfa c_1⟩
    have v_0 : gR_number tf zs po fa = kR_number_39a_0 tf zs po fa 4 ((tf po.toNatClampNeg) - 48) (1) (gR_must_3 po fa (xb_bi (fR_isDigit tf zs po))) := (if_pos c_1).trans (rfl)
    have v_1 : gR_number_3 tf zs po fa = kR_number_39a_1 tf zs po fa 4 ((tf po.toNatClampNeg) - 48) (1) (gR_must_3 po fa (xb_bi (fR_isDigit tf zs po))) := (if_pos c_1).trans (rfl)
    have v_2 : gR_number_4 tf zs po fa = kR_number_39a_2 tf zs po fa 4 ((tf po.toNatClampNeg) - 48) (1) (gR_must_3 po fa (xb_bi (fR_isDigit tf zs po))) := (if_pos c_1).trans (rfl)
    exact lp_39 4 ((tf po.toNatClampNeg) - 48) (1) (gR_must_3 po fa (xb_bi (fR_isDigit tf zs po))) v_inv v_0 v_1 v_2 _ _ (hP.sub (ws' := [(ta, .inl (cI, 200, .inl tf)), (h0, .inr (3, [.int th, .ref ta, .int zs, .int (gR_must_3 po fa (xb_bi (fR_isDigit tf zs po))), .int (gR_must_4 po fa (xb_bi (fR_isDigit tf zs po))), .ref da, .ref ra, .ref la, .long we, .long le, .int pk, .int pm, .int co, .ref pa, .int pl, .ref xa, .ref ya, .int mb, .ref ea, .ref wa]))]) [0, 1] rfl) (hD.sub (ws' := [(ta, .inl (cI, 200, .inl tf)), (h0, .inr (3, [.int th, .ref ta, .int zs, .int (gR_must_3 po fa (xb_bi (fR_isDigit tf zs po))), .int (gR_must_4 po fa (xb_bi (fR_isDigit tf zs po))), .ref da, .ref ra, .ref la, .long we, .long le, .int pk, .int pm, .int co, .ref pa, .int pl, .ref xa, .ref ya, .int mb, .ref ea, .ref wa]))]) [0, 1] (by decide) rfl) hS ls (lv_sub hl [1, 0, 2, 3] rfl)
  · refine lv_iconst (v := 0) hx hb dR_number_25 (by decide) ?_
    have e_0 : gR_number tf zs po fa = (0 : Int32) := (if_neg c_1).trans (rfl)
    have e_1 : gR_number_3 tf zs po fa = (gR_must_3 po fa (xb_bi (fR_isDigit tf zs po))) := (if_neg c_1).trans (rfl)
    have e_2 : gR_number_4 tf zs po fa = (gR_must_4 po fa (xb_bi (fR_isDigit tf zs po))) := (if_neg c_1).trans (rfl)
    have hP9 := hP.sub (ws' := [(h0, .inr (3, [.int th, .ref ta, .int zs, .int (gR_must_3 po fa (xb_bi (fR_isDigit tf zs po))), .int (gR_must_4 po fa (xb_bi (fR_isDigit tf zs po))), .ref da, .ref ra, .ref la, .long we, .long le, .int pk, .int pm, .int co, .ref pa, .int pl, .ref xa, .ref ya, .int mb, .ref ea, .ref wa])), (ta, .inl (cI, 200, .inl tf))]) [1, 0] rfl
    have hD9 := hD.sub (ws' := [(h0, .inr (3, [.int th, .ref ta, .int zs, .int (gR_must_3 po fa (xb_bi (fR_isDigit tf zs po))), .int (gR_must_4 po fa (xb_bi (fR_isDigit tf zs po))), .ref da, .ref ra, .ref la, .long we, .long le, .int pk, .int pm, .int co, .ref pa, .int pl, .ref xa, .ref ya, .int mb, .ref ea, .ref wa])), (ta, .inl (cI, 200, .inl tf))]) [1, 0] (by decide) rfl
    exact W.iret (v := 0) hx hb hr (fun t ht hW => ⟨_, _, rfl, ⟨by first | rfl | (simp only [e_0, e_1, e_2]; try rfl), by first | rfl | (simp only [e_0, e_1, e_2]; try rfl)⟩, by rw [ht]; exact hP9, hD9, hS.F ht⟩) hS.2.2 dR_number_26

def kR_word_26a_0 (tf : Nat → Int32) (lf : Nat → Int32) (zs : Int32) (po : Int32) (fa : Int32) (pq : Int32) (fb : Int32) (K_5 : (Int32 → Int32 → Int32)) : Nat → Int32 → Int32 → Int32
  | 0, _, _ => default
  | n_26 + 1, so, ww => if 7 ≤ ww then (K_5 (gR_must_3 pq fb so) (gR_must_4 pq fb so)) else (if so = 0 then (if (fR_now tf zs pq) = (-1) then (kR_word_26a_0 tf lf zs po fa pq fb K_5 n_26 (0) (ww + 1)) else (if (fR_may tf lf pq ww po (fR_now tf zs pq)) = true then (kR_word_26a_0 tf lf zs po fa pq fb K_5 n_26 (1) (ww + 1)) else (kR_word_26a_0 tf lf zs po fa pq fb K_5 n_26 (0) (ww + 1)))) else (kR_word_26a_0 tf lf zs po fa pq fb K_5 n_26 (1) (ww + 1)))
def kR_word_26a_1 (tf : Nat → Int32) (lf : Nat → Int32) (zs : Int32) (po : Int32) (fa : Int32) (pq : Int32) (fb : Int32) (K_5 : (Int32 → Int32 → Int32)) : Nat → Int32 → Int32 → Int32
  | 0, _, _ => default
  | n_26 + 1, so, ww => if 7 ≤ ww then (K_5 (gR_must_3 pq fb so) (gR_must_4 pq fb so)) else (if so = 0 then (if (fR_now tf zs pq) = (-1) then (kR_word_26a_1 tf lf zs po fa pq fb K_5 n_26 (0) (ww + 1)) else (if (fR_may tf lf pq ww po (fR_now tf zs pq)) = true then (kR_word_26a_1 tf lf zs po fa pq fb K_5 n_26 (1) (ww + 1)) else (kR_word_26a_1 tf lf zs po fa pq fb K_5 n_26 (0) (ww + 1)))) else (kR_word_26a_1 tf lf zs po fa pq fb K_5 n_26 (1) (ww + 1)))
def kR_word_26a_2 (tf : Nat → Int32) (lf : Nat → Int32) (zs : Int32) (po : Int32) (fa : Int32) (pq : Int32) (fb : Int32) (K_5 : (Int32 → Int32 → Int32)) : Nat → Int32 → Int32 → Int32
  | 0, _, _ => default
  | n_26 + 1, so, ww => if 7 ≤ ww then (K_5 (gR_must_3 pq fb so) (gR_must_4 pq fb so)) else (if so = 0 then (if (fR_now tf zs pq) = (-1) then (kR_word_26a_2 tf lf zs po fa pq fb K_5 n_26 (0) (ww + 1)) else (if (fR_may tf lf pq ww po (fR_now tf zs pq)) = true then (kR_word_26a_2 tf lf zs po fa pq fb K_5 n_26 (1) (ww + 1)) else (kR_word_26a_2 tf lf zs po fa pq fb K_5 n_26 (0) (ww + 1)))) else (kR_word_26a_2 tf lf zs po fa pq fb K_5 n_26 (1) (ww + 1)))
def kR_word_5a_0 (tf : Nat → Int32) (lf : Nat → Int32) (zs : Int32) (po : Int32) (fa : Int32) : Nat → Int32 → Int32 → Int32
  | 0, _, _ => default
  | n_5 + 1, pq, fb => if fb = (-1) then (if (fR_whole tf lf pq po) = (-1) then (kR_word_26a_0 tf lf zs po fa pq fb (fun pq fb => kR_word_5a_0 tf lf zs po fa n_5 pq fb) 8 (0) (0)) else (if fb = (-1) then (fR_whole tf lf pq po) else ((0)))) else (if fb = (-1) then (fR_whole tf lf pq po) else ((0)))
def kR_word_5a_1 (tf : Nat → Int32) (lf : Nat → Int32) (zs : Int32) (po : Int32) (fa : Int32) : Nat → Int32 → Int32 → Int32
  | 0, _, _ => default
  | n_5 + 1, pq, fb => if fb = (-1) then (if (fR_whole tf lf pq po) = (-1) then (kR_word_26a_1 tf lf zs po fa pq fb (fun pq fb => kR_word_5a_1 tf lf zs po fa n_5 pq fb) 8 (0) (0)) else (if fb = (-1) then (pq) else (pq))) else (if fb = (-1) then (pq) else (pq))
def kR_word_5a_2 (tf : Nat → Int32) (lf : Nat → Int32) (zs : Int32) (po : Int32) (fa : Int32) : Nat → Int32 → Int32 → Int32
  | 0, _, _ => default
  | n_5 + 1, pq, fb => if fb = (-1) then (if (fR_whole tf lf pq po) = (-1) then (kR_word_26a_2 tf lf zs po fa pq fb (fun pq fb => kR_word_5a_2 tf lf zs po fa n_5 pq fb) 8 (0) (0)) else (if fb = (-1) then (fb) else (fb))) else (if fb = (-1) then (fb) else (fb))
def gR_word (tf : Nat → Int32) (lf : Nat → Int32) (zs : Int32) (po : Int32) (fa : Int32) : Int32 := kR_word_5a_0 tf lf zs po fa 7 po fa
def gR_word_3 (tf : Nat → Int32) (lf : Nat → Int32) (zs : Int32) (po : Int32) (fa : Int32) : Int32 := kR_word_5a_1 tf lf zs po fa 7 po fa
def gR_word_4 (tf : Nat → Int32) (lf : Nat → Int32) (zs : Int32) (po : Int32) (fa : Int32) : Int32 := kR_word_5a_2 tf lf zs po fa 7 po fa
set_option maxHeartbeats 4000000 in
set_option maxRecDepth 100000 in
theorem cR_word (l : Launch) {s0 : State} {dC : Nat → ClassId} {dI : Nat → Nat → Nat} {cI cC cL cO : ClassId} (E : xb_Env l s0 dC dI (xtys cI cC cL cO)) (sz : Nat) (h0 : Nat) (ta : Nat) (la : Nat) (th : Int32) (zs : Int32) (po : Int32) (fa : Int32) (da : Nat) (ra : Nat) (we : Int64) (le : Int64) (pk : Int32) (pm : Int32) (co : Int32) (pa : Nat) (pl : Int32) (xa : Nat) (ya : Nat) (mb : Int32) (ea : Nat) (wa : Nat) (tf : Nat → Int32) (lf : Nat → Int32) (hp9 : ∃ b : Nat, po = nI b ∧ b ≤ 200) (hs9 : zs ≤ 200) : Met l yR_word [.code yR_word bR_word 4 (some (.int))] ({ frames := 1, cells := 0, slots := 0, locals := 25 }) (va_Pc [.ref h0] (fun U => xb_At s0 U ∧ U.heap.size = sz ∧ va_P (dC, dI) classes [(h0, .inr (3, [.int th, .ref ta, .int zs, .int po, .int fa, .ref da, .ref ra, .ref la, .long we, .long le, .int pk, .int pm, .int co, .ref pa, .int pl, .ref xa, .ref ya, .int mb, .ref ea, .ref wa])), (ta, .inl (cI, 200, .inl tf)), (la, .inl (cI, 35, .inl lf))] U.heap ∧ va_D (fun q => s0.heap.size ≤ q) [(h0, .inr (3, [.int th, .ref ta, .int zs, .int po, .int fa, .ref da, .ref ra, .ref la, .long we, .long le, .int pk, .int pm, .int co, .ref pa, .int pl, .ref xa, .ref ya, .int mb, .ref ea, .ref wa])), (ta, .inl (cI, 200, .inl tf)), (la, .inl (cI, 35, .inl lf))])) (xb_W (dC, dI) (fun v9 w9 => v9 = some (.int (gR_word tf lf zs po fa)) ∧ w9 = [(h0, .inr (3, [.int th, .ref ta, .int zs, .int (gR_word_3 tf lf zs po fa), .int (gR_word_4 tf lf zs po fa), .ref da, .ref ra, .ref la, .long we, .long le, .int pk, .int pm, .int co, .ref pa, .int pl, .ref xa, .ref ya, .int mb, .ref ea, .ref wa])), (ta, .inl (cI, 200, .inl tf)), (la, .inl (cI, 35, .inl lf))]) (va_A [(h0, .inr (3, [.int th, .ref ta, .int zs, .int po, .int fa, .ref da, .ref ra, .ref la, .long we, .long le, .int pk, .int pm, .int co, .ref pa, .int pl, .ref xa, .ref ya, .int mb, .ref ea, .ref wa])), (ta, .inl (cI, 200, .inl tf)), (la, .inl (cI, 35, .inl lf))] sz)) 0 0 (va_A [(h0, .inr (3, [.int th, .ref ta, .int zs, .int po, .int fa, .ref da, .ref ra, .ref la, .long we, .long le, .int pk, .int pm, .int co, .ref pa, .int pl, .ref xa, .ref ya, .int mb, .ref ea, .ref wa])), (ta, .inl (cI, 200, .inl tf)), (la, .inl (cI, 35, .inl lf))] sz) := by
  refine Met.ofW (cc := bR_word) (maxL := 4) (ret := (some (.int))) (by decide) rfl ?_
  intro p e s m args below meth c s₁ B hml hv
  obtain ⟨rfl, hAt, hsz, hP, hD0⟩ := hv
  have hx := B.exec
  have hb := B.bytes
  have hr := B.returns
  have hts := xb_hts E hAt ([.ref h0] : List Value).toArray
  have hown : s.vm.findClass "NailRulesModel" = some m.cls := findClass_of_methodNamed B.named
  have hlocks := B.notSynchronized
  have hK := xb_K E hAt
  subst hsz
  have hA0 := xb_A0 hAt hD0
  have hD := hD0.self (sz := s.heap.size)
  generalize hAe : va_A [(h0, .inr (3, [.int th, .ref ta, .int zs, .int po, .int fa, .ref da, .ref ra, .ref la, .long we, .long le, .int pk, .int pm, .int co, .ref pa, .int pl, .ref xa, .ref ya, .int mb, .ref ea, .ref wa])), (ta, .inl (cI, 200, .inl tf)), (la, .inl (cI, 35, .inl lf))] s.heap.size = A at hD hA0 ⊢
  have hA : ∀ q : Nat, s.heap.size ≤ q → A q := fun q h => by rw [← hAe]; exact Or.inr h
  have hS : va_S A s.heap s.heap [] := va_S.rf
  have hl := lv_entry ([.ref h0]) (n := 4) (Nat.le_of_ble_eq_true rfl)
  rw [lg_entry_eq]
  generalize (lg_sl ([.ref h0]) ++ List.replicate (4 - (lg_sl ([.ref h0])).length) Slot.unset).toArray = ls at hl ⊢
  have hl : lv_has ls 4 [(0, .ref h0)] := hl
  refine lv_aload_n hx hb dR_word_0 rfl (lv_at hl 0 rfl) ?_
  refine va_get (D := (dC, dI)) (ci := 3) (v := .int po) (C := xR_R) (T := xF_R) (N := 20) hx hb hts xi_R hown hK hP 0 rfl rfl 3 (by decide) (hts _ xk_649) (fun _ h9 => h9) rfl dR_word_1 ?_
  refine lv_istore_n (lv' := [(1, .int po), (0, .ref h0)]) hx hb dR_word_4 rfl hl (by decide) rfl (fun ls hl => ?_)
  have lp_5 : ∀ (n_5 : Nat) (pq : Int32) (fb : Int32), (xv_I n_5 po pq fb) → gR_word tf lf zs po fa = kR_word_5a_0 tf lf zs po fa n_5 pq fb → gR_word_3 tf lf zs po fa = kR_word_5a_1 tf lf zs po fa n_5 pq fb → gR_word_4 tf lf zs po fa = kR_word_5a_2 tf lf zs po fa n_5 pq fb → ∀ (H : Heap) (locs : List Loc), va_P (dC, dI) classes [(h0, .inr (3, [.int th, .ref ta, .int zs, .int pq, .int fb, .ref da, .ref ra, .ref la, .long we, .long le, .int pk, .int pm, .int co, .ref pa, .int pl, .ref xa, .ref ya, .int mb, .ref ea, .ref wa])), (ta, .inl (cI, 200, .inl tf)), (la, .inl (cI, 35, .inl lf))] H → va_D A [(h0, .inr (3, [.int th, .ref ta, .int zs, .int pq, .int fb, .ref da, .ref ra, .ref la, .long we, .long le, .int pk, .int pm, .int co, .ref pa, .int pl, .ref xa, .ref ya, .int mb, .ref ea, .ref wa])), (ta, .inl (cI, 200, .inl tf)), (la, .inl (cI, 35, .inl lf))] → va_S A s.heap H locs → ∀ ls : Array Slot, lv_has ls 4 [(1, .int po), (0, .ref h0)] → W p l e (headSpec [.code yR_word bR_word 4 (some (.int))] ({ frames := 1, cells := 0, slots := 0, locals := 25 })).room s m ([.ref h0] : List Value).toArray below meth c H locs 0 0 (MQ below (xb_W (dC, dI) (fun v9 w9 => v9 = some (.int (gR_word tf lf zs po fa)) ∧ w9 = [(h0, .inr (3, [.int th, .ref ta, .int zs, .int (gR_word_3 tf lf zs po fa), .int (gR_word_4 tf lf zs po fa), .ref da, .ref ra, .ref la, .long we, .long le, .int pk, .int pm, .int co, .ref pa, .int pl, .ref xa, .ref ya, .int mb, .ref ea, .ref wa])), (ta, .inl (cI, 200, .inl tf)), (la, .inl (cI, 35, .inl lf))]) A) ([.ref h0] : List Value).toArray s 0 0 A) (F0 m 5 ls []) := by
    intro n_5
    induction n_5 with
    | zero =>
      intro pq fb hinv_5
      exact xv_z hinv_5
    | succ n_5 ih_5 =>
      intro pq fb hinv_5 hres_5_0 hres_5_1 hres_5_2 H locs hP hD hS ls hl
      refine lv_aload_n hx hb dR_word_5 rfl (lv_at hl 1 rfl) ?_
      refine va_get (D := (dC, dI)) (ci := 3) (v := .int fb) (C := xR_R) (T := xF_R) (N := 20) hx hb hts xi_R hown hK hP 0 rfl rfl 4 (by decide) (hts _ xk_650) (fun _ h9 => h9) rfl dR_word_6 ?_
      refine lv_iconst (v := (-1)) hx hb dR_word_9 (by decide) ?_
      refine lv_icmp_ne (tgt := 77) hx hb dR_word_10 (by decide) (fun c_1 => ?_) (fun c_1 => ?_)
      · refine lv_aload_n hx hb dR_word_77 rfl (lv_at hl 1 rfl) ?_
        refine va_get (D := (dC, dI)) (ci := 3) (v := .int fb) (C := xR_R) (T := xF_R) (N := 20) hx hb hts xi_R hown hK hP 0 rfl rfl 4 (by decide) (hts _ xk_650) (fun _ h9 => h9) rfl dR_word_78 ?_
        refine lv_iconst (v := (-1)) hx hb dR_word_81 (by decide) ?_
        refine lv_icmp_ne (tgt := 93) hx hb dR_word_82 (by decide) (fun c_2 => ?_) (fun c_2 => ?_)
        · refine lv_iconst (v := 0) hx hb dR_word_93 (by decide) ?_
          have e_0 : gR_word tf lf zs po fa = (0 : Int32) := hres_5_0.trans ((if_neg c_1).trans ((if_neg c_2).trans (rfl)))
          have e_1 : gR_word_3 tf lf zs po fa = pq := hres_5_1.trans ((if_neg c_1).trans ((if_neg c_2).trans (rfl)))
          have e_2 : gR_word_4 tf lf zs po fa = fb := hres_5_2.trans ((if_neg c_1).trans ((if_neg c_2).trans (rfl)))
          have hP9 := hP.sub (ws' := [(h0, .inr (3, [.int th, .ref ta, .int zs, .int pq, .int fb, .ref da, .ref ra, .ref la, .long we, .long le, .int pk, .int pm, .int co, .ref pa, .int pl, .ref xa, .ref ya, .int mb, .ref ea, .ref wa])), (ta, .inl (cI, 200, .inl tf)), (la, .inl (cI, 35, .inl lf))]) [0, 1, 2] rfl
          have hD9 := hD.sub (ws' := [(h0, .inr (3, [.int th, .ref ta, .int zs, .int pq, .int fb, .ref da, .ref ra, .ref la, .long we, .long le, .int pk, .int pm, .int co, .ref pa, .int pl, .ref xa, .ref ya, .int mb, .ref ea, .ref wa])), (ta, .inl (cI, 200, .inl tf)), (la, .inl (cI, 35, .inl lf))]) [0, 1, 2] (by decide) rfl
          exact W.iret (v := 0) hx hb hr (fun t ht hW => ⟨_, _, rfl, ⟨by first | rfl | (simp only [e_0, e_1, e_2]; try rfl), by first | rfl | (simp only [e_0, e_1, e_2]; try rfl)⟩, by rw [ht]; exact hP9, hD9, hS.F ht⟩) hS.2.2 dR_word_94
        · refine lv_aload_n hx hb dR_word_85 rfl (lv_at hl 1 rfl) ?_
          refine lv_iload_n hx hb dR_word_86 rfl (lv_at hl 0 rfl) ?_
          refine xb_rd (W.runV (C := "NailRulesModel") (As := [.int po]) (rest := []) ⟨hx, hb, hml, hown, hts⟩ (cR_whole l E h0 ([.int th, .ref ta, .int zs, .int pq, .int fb, .ref da, .ref ra, .ref la, .long we, .long le, .int pk, .int pm, .int co, .ref pa, .int pl, .ref xa, .ref ya, .int mb, .ref ea, .ref wa]) ta tf la lf pq po rfl rfl rfl (xv_fp hinv_5)) (cwV 1 hts (xb_gi (List.forall_mem_cons.mpr ⟨xk_730, List.forall_mem_cons.mpr ⟨xk_732, List.forall_mem_cons.mpr ⟨xk_30, List.forall_mem_cons.mpr ⟨xk_45, List.forall_mem_cons.mpr ⟨xk_733, fun _ h => absurd h List.not_mem_nil⟩⟩⟩⟩⟩)) rfl rfl rfl (by decide +kernel) ⟨Nat.le_of_ble_eq_true rfl, Nat.le_of_ble_eq_true rfl⟩) ⟨fun _ _ _ _ q => q, va_recv hK hP (ci := 3) (q0 := 0) rfl rfl, fun U hU hW => ⟨rfl, xb_atS hAt hS hA0 hU hW, by rw [hU]; exact hP.sub (ws' := [(h0, .inr (3, [.int th, .ref ta, .int zs, .int pq, .int fb, .ref da, .ref ra, .ref la, .long we, .long le, .int pk, .int pm, .int co, .ref pa, .int pl, .ref xa, .ref ya, .int mb, .ref ea, .ref wa])), (ta, .inl (cI, 200, .inl tf)), (la, .inl (cI, 35, .inl lf))]) [0, 1, 2] rfl⟩⟩ rfl rfl hl.1 rfl (lv_room (Nat.le_of_ble_eq_true rfl)) dR_word_87 ⟨Nat.zero_le _, Nat.zero_le _⟩) ?_
          refine lv_goto (tgt := 94) hx hb dR_word_90 (by decide) ?_
          have e_0 : gR_word tf lf zs po fa = (fR_whole tf lf pq po) := hres_5_0.trans ((if_neg c_1).trans ((if_pos c_2).trans (rfl)))
          have e_1 : gR_word_3 tf lf zs po fa = pq := hres_5_1.trans ((if_neg c_1).trans ((if_pos c_2).trans (rfl)))
          have e_2 : gR_word_4 tf lf zs po fa = fb := hres_5_2.trans ((if_neg c_1).trans ((if_pos c_2).trans (rfl)))
          have hP9 := hP.sub (ws' := [(h0, .inr (3, [.int th, .ref ta, .int zs, .int pq, .int fb, .ref da, .ref ra, .ref la, .long we, .long le, .int pk, .int pm, .int co, .ref pa, .int pl, .ref xa, .ref ya, .int mb, .ref ea, .ref wa])), (ta, .inl (cI, 200, .inl tf)), (la, .inl (cI, 35, .inl lf))]) [0, 1, 2] rfl
          have hD9 := hD.sub (ws' := [(h0, .inr (3, [.int th, .ref ta, .int zs, .int pq, .int fb, .ref da, .ref ra, .ref la, .long we, .long le, .int pk, .int pm, .int co, .ref pa, .int pl, .ref xa, .ref ya, .int mb, .ref ea, .ref wa])), (ta, .inl (cI, 200, .inl tf)), (la, .inl (cI, 35, .inl lf))]) [0, 1, 2] (by decide) rfl
          exact W.iret (v := (fR_whole tf lf pq po)) hx hb hr (fun t ht hW => ⟨_, _, rfl, ⟨by first | rfl | (simp only [e_0, e_1, e_2]; try rfl), by first | rfl | (simp only [e_0, e_1, e_2]; try rfl)⟩, by rw [ht]; exact hP9, hD9, hS.F ht⟩) hS.2.2 dR_word_94
      · refine lv_aload_n hx hb dR_word_13 rfl (lv_at hl 1 rfl) ?_
        refine lv_iload_n hx hb dR_word_14 rfl (lv_at hl 0 rfl) ?_
        refine xb_rd (W.runV (C := "NailRulesModel") (As := [.int po]) (rest := []) ⟨hx, hb, hml, hown, hts⟩ (cR_whole l E h0 ([.int th, .ref ta, .int zs, .int pq, .int fb, .ref da, .ref ra, .ref la, .long we, .long le, .int pk, .int pm, .int co, .ref pa, .int pl, .ref xa, .ref ya, .int mb, .ref ea, .ref wa]) ta tf la lf pq po rfl rfl rfl (xv_fp hinv_5)) (cwV 1 hts (xb_gi (List.forall_mem_cons.mpr ⟨xk_730, List.forall_mem_cons.mpr ⟨xk_732, List.forall_mem_cons.mpr ⟨xk_30, List.forall_mem_cons.mpr ⟨xk_45, List.forall_mem_cons.mpr ⟨xk_733, fun _ h => absurd h List.not_mem_nil⟩⟩⟩⟩⟩)) rfl rfl rfl (by decide +kernel) ⟨Nat.le_of_ble_eq_true rfl, Nat.le_of_ble_eq_true rfl⟩) ⟨fun _ _ _ _ q => q, va_recv hK hP (ci := 3) (q0 := 0) rfl rfl, fun U hU hW => ⟨rfl, xb_atS hAt hS hA0 hU hW, by rw [hU]; exact hP.sub (ws' := [(h0, .inr (3, [.int th, .ref ta, .int zs, .int pq, .int fb, .ref da, .ref ra, .ref la, .long we, .long le, .int pk, .int pm, .int co, .ref pa, .int pl, .ref xa, .ref ya, .int mb, .ref ea, .ref wa])), (ta, .inl (cI, 200, .inl tf)), (la, .inl (cI, 35, .inl lf))]) [0, 1, 2] rfl⟩⟩ rfl rfl hl.1 rfl (lv_room (Nat.le_of_ble_eq_true rfl)) dR_word_15 ⟨Nat.zero_le _, Nat.zero_le _⟩) ?_
        refine lv_iconst (v := (-1)) hx hb dR_word_18 (by decide) ?_
        refine lv_icmp_ne (tgt := 77) hx hb dR_word_19 (by decide) (fun c_3 => ?_) (fun c_3 => ?_)
        · refine lv_aload_n hx hb dR_word_77 rfl (lv_at hl 1 rfl) ?_
          refine va_get (D := (dC, dI)) (ci := 3) (v := .int fb) (C := xR_R) (T := xF_R) (N := 20) hx hb hts xi_R hown hK hP 0 rfl rfl 4 (by decide) (hts _ xk_650) (fun _ h9 => h9) rfl dR_word_78 ?_
          refine lv_iconst (v := (-1)) hx hb dR_word_81 (by decide) ?_
          refine lv_icmp_ne (tgt := 93) hx hb dR_word_82 (by decide) (fun c_4 => ?_) (fun c_4 => ?_)
          · refine lv_iconst (v := 0) hx hb dR_word_93 (by decide) ?_
            have e_0 : gR_word tf lf zs po fa = (0 : Int32) := hres_5_0.trans ((if_pos c_1).trans ((if_neg c_3).trans ((if_neg c_4).trans (rfl))))
            have e_1 : gR_word_3 tf lf zs po fa = pq := hres_5_1.trans ((if_pos c_1).trans ((if_neg c_3).trans ((if_neg c_4).trans (rfl))))
            have e_2 : gR_word_4 tf lf zs po fa = fb := hres_5_2.trans ((if_pos c_1).trans ((if_neg c_3).trans ((if_neg c_4).trans (rfl))))
            have hP9 := hP.sub (ws' := [(h0, .inr (3, [.int th, .ref ta, .int zs, .int pq, .int fb, .ref da, .ref ra, .ref la, .long we, .long le, .int pk, .int pm, .int co, .ref pa, .int pl, .ref xa, .ref ya, .int mb, .ref ea, .ref wa])), (ta, .inl (cI, 200, .inl tf)), (la, .inl (cI, 35, .inl lf))]) [0, 1, 2] rfl
            have hD9 := hD.sub (ws' := [(h0, .inr (3, [.int th, .ref ta, .int zs, .int pq, .int fb, .ref da, .ref ra, .ref la, .long we, .long le, .int pk, .int pm, .int co, .ref pa, .int pl, .ref xa, .ref ya, .int mb, .ref ea, .ref wa])), (ta, .inl (cI, 200, .inl tf)), (la, .inl (cI, 35, .inl lf))]) [0, 1, 2] (by decide) rfl
            exact W.iret (v := 0) hx hb hr (fun t ht hW => ⟨_, _, rfl, ⟨by first | rfl | (simp only [e_0, e_1, e_2]; try rfl), by first | rfl | (simp only [e_0, e_1, e_2]; try rfl)⟩, by rw [ht]; exact hP9, hD9, hS.F ht⟩) hS.2.2 dR_word_94
          · refine lv_aload_n hx hb dR_word_85 rfl (lv_at hl 1 rfl) ?_
            refine lv_iload_n hx hb dR_word_86 rfl (lv_at hl 0 rfl) ?_
            refine xb_rd (W.runV (C := "NailRulesModel") (As := [.int po]) (rest := []) ⟨hx, hb, hml, hown, hts⟩ (cR_whole l E h0 ([.int th, .ref ta, .int zs, .int pq, .int fb, .ref da, .ref ra, .ref la, .long we, .long le, .int pk, .int pm, .int co, .ref pa, .int pl, .ref xa, .ref ya, .int mb, .ref ea, .ref wa]) ta tf la lf pq po rfl rfl rfl (xv_fp hinv_5)) (cwV 1 hts (xb_gi (List.forall_mem_cons.mpr ⟨xk_730, List.forall_mem_cons.mpr ⟨xk_732, List.forall_mem_cons.mpr ⟨xk_30, List.forall_mem_cons.mpr ⟨xk_45, List.forall_mem_cons.mpr ⟨xk_733, fun _ h => absurd h List.not_mem_nil⟩⟩⟩⟩⟩)) rfl rfl rfl (by decide +kernel) ⟨Nat.le_of_ble_eq_true rfl, Nat.le_of_ble_eq_true rfl⟩) ⟨fun _ _ _ _ q => q, va_recv hK hP (ci := 3) (q0 := 0) rfl rfl, fun U hU hW => ⟨rfl, xb_atS hAt hS hA0 hU hW, by rw [hU]; exact hP.sub (ws' := [(h0, .inr (3, [.int th, .ref ta, .int zs, .int pq, .int fb, .ref da, .ref ra, .ref la, .long we, .long le, .int pk, .int pm, .int co, .ref pa, .int pl, .ref xa, .ref ya, .int mb, .ref ea, .ref wa])), (ta, .inl (cI, 200, .inl tf)), (la, .inl (cI, 35, .inl lf))]) [0, 1, 2] rfl⟩⟩ rfl rfl hl.1 rfl (lv_room (Nat.le_of_ble_eq_true rfl)) dR_word_87 ⟨Nat.zero_le _, Nat.zero_le _⟩) ?_
            refine lv_goto (tgt := 94) hx hb dR_word_90 (by decide) ?_
            have e_0 : gR_word tf lf zs po fa = (fR_whole tf lf pq po) := hres_5_0.trans ((if_pos c_1).trans ((if_neg c_3).trans ((if_pos c_4).trans (rfl))))
            have e_1 : gR_word_3 tf lf zs po fa = pq := hres_5_1.trans ((if_pos c_1).trans ((if_neg c_3).trans ((if_pos c_4).trans (rfl))))
            have e_2 : gR_word_4 tf lf zs po fa = fb := hres_5_2.trans ((if_pos c_1).trans ((if_neg c_3).trans ((if_pos c_4).trans (rfl))))
            have hP9 := hP.sub (ws' := [(h0, .inr (3, [.int th, .ref ta, .int zs, .int pq, .int fb, .ref da, .ref ra, .ref la, .long we, .long le, .int pk, .int pm, .int co, .ref pa, .int pl, .ref xa, .ref ya, .int mb, .ref ea, .ref wa])), (ta, .inl (cI, 200, .inl tf)), (la, .inl (cI, 35, .inl lf))]) [0, 1, 2] rfl
            have hD9 := hD.sub (ws' := [(h0, .inr (3, [.int th, .ref ta, .int zs, .int pq, .int fb, .ref da, .ref ra, .ref la, .long we, .long le, .int pk, .int pm, .int co, .ref pa, .int pl, .ref xa, .ref ya, .int mb, .ref ea, .ref wa])), (ta, .inl (cI, 200, .inl tf)), (la, .inl (cI, 35, .inl lf))]) [0, 1, 2] (by decide) rfl
            exact W.iret (v := (fR_whole tf lf pq po)) hx hb hr (fun t ht hW => ⟨_, _, rfl, ⟨by first | rfl | (simp only [e_0, e_1, e_2]; try rfl), by first | rfl | (simp only [e_0, e_1, e_2]; try rfl)⟩, by rw [ht]; exact hP9, hD9, hS.F ht⟩) hS.2.2 dR_word_94
        · refine lv_iconst (v := 0) hx hb dR_word_22 (by decide) ?_
          refine lv_istore_n (lv' := [(2, .int 0), (1, .int po), (0, .ref h0)]) hx hb dR_word_23 rfl hl (by decide) rfl (fun ls hl => ?_)
          refine lv_iconst (v := 0) hx hb dR_word_24 (by decide) ?_
          refine lv_istore_n (lv' := [(3, .int 0), (2, .int 0), (1, .int po), (0, .ref h0)]) hx hb dR_word_25 rfl hl (by decide) rfl (fun ls hl => ?_)
          have lp_26 : ∀ (n_26 : Nat) (so : Int32) (ww : Int32), (xl_c 0 7 n_26 ww ∧ (¬ so = 0 → ¬ zs ≤ pq ∧ ¬ 5 ≤ pq - po)) → gR_word tf lf zs po fa = kR_word_26a_0 tf lf zs po fa pq fb (fun pq fb => kR_word_5a_0 tf lf zs po fa n_5 pq fb) n_26 so ww → gR_word_3 tf lf zs po fa = kR_word_26a_1 tf lf zs po fa pq fb (fun pq fb => kR_word_5a_1 tf lf zs po fa n_5 pq fb) n_26 so ww → gR_word_4 tf lf zs po fa = kR_word_26a_2 tf lf zs po fa pq fb (fun pq fb => kR_word_5a_2 tf lf zs po fa n_5 pq fb) n_26 so ww → ∀ (H : Heap) (locs : List Loc), va_P (dC, dI) classes [(h0, .inr (3, [.int th, .ref ta, .int zs, .int pq, .int fb, .ref da, .ref ra, .ref la, .long we, .long le, .int pk, .int pm, .int co, .ref pa, .int pl, .ref xa, .ref ya, .int mb, .ref ea, .ref wa])), (ta, .inl (cI, 200, .inl tf)), (la, .inl (cI, 35, .inl lf))] H → va_D A [(h0, .inr (3, [.int th, .ref ta, .int zs, .int pq, .int fb, .ref da, .ref ra, .ref la, .long we, .long le, .int pk, .int pm, .int co, .ref pa, .int pl, .ref xa, .ref ya, .int mb, .ref ea, .ref wa])), (ta, .inl (cI, 200, .inl tf)), (la, .inl (cI, 35, .inl lf))] → va_S A s.heap H locs → ∀ ls : Array Slot, lv_has ls 4 [(2, .int so), (3, .int ww), (1, .int po), (0, .ref h0)] → W p l e (headSpec [.code yR_word bR_word 4 (some (.int))] ({ frames := 1, cells := 0, slots := 0, locals := 25 })).room s m ([.ref h0] : List Value).toArray below meth c H locs 0 0 (MQ below (xb_W (dC, dI) (fun v9 w9 => v9 = some (.int (gR_word tf lf zs po fa)) ∧ w9 = [(h0, .inr (3, [.int th, .ref ta, .int zs, .int (gR_word_3 tf lf zs po fa), .int (gR_word_4 tf lf zs po fa), .ref da, .ref ra, .ref la, .long we, .long le, .int pk, .int pm, .int co, .ref pa, .int pl, .ref xa, .ref ya, .int mb, .ref ea, .ref wa])), (ta, .inl (cI, 200, .inl tf)), (la, .inl (cI, 35, .inl lf))]) A) ([.ref h0] : List Value).toArray s 0 0 A) (F0 m 26 ls []) := by
            intro n_26
            induction n_26 with
            | zero =>
              intro so ww hinv_26
              exact xl_0 hinv_26.1
            | succ n_26 ih_26 =>
              intro so ww hinv_26 hres_26_0 hres_26_1 hres_26_2 H locs hP hD hS ls hl
              refine lv_iload_n hx hb dR_word_26 rfl (lv_at hl 1 rfl) ?_
              refine lv_bipush (v := 7) hx hb dR_word_27 (by decide) ?_
              refine lv_icmp_ge (tgt := 69) hx hb dR_word_29 (by decide) (fun c_5 => ?_) (fun c_5 => ?_)
              · refine lv_aload_n hx hb dR_word_69 rfl (lv_at hl 3 rfl) ?_
                refine lv_iload_n hx hb dR_word_70 rfl (lv_at hl 0 rfl) ?_
                refine xb_wr (wr := [(ta, .inl (cI, 200, .inl tf)), (la, .inl (cI, 35, .inl lf))]) (va_runV (C := "NailRulesModel") (As := [.int so]) (rest := []) ⟨hx, hb, hml, hown, hts⟩ (cR_must l E _ h0 th ta zs pq fb da ra la we le pk pm co pa pl xa ya mb ea wa so) (cwV 1 hts (xb_gi (List.forall_mem_cons.mpr ⟨xk_722, List.forall_mem_cons.mpr ⟨xk_724, List.forall_mem_cons.mpr ⟨xk_28, List.forall_mem_cons.mpr ⟨xk_45, List.forall_mem_cons.mpr ⟨xk_725, fun _ h => absurd h List.not_mem_nil⟩⟩⟩⟩⟩)) rfl rfl rfl (by decide +kernel) ⟨Nat.le_of_ble_eq_true rfl, Nat.le_of_ble_eq_true rfl⟩) ⟨fun _ _ _ _ q => q, va_recv hK hP (ci := 3) (q0 := 0) rfl rfl, fun U hU hW => ⟨rfl, xb_atS hAt hS hA0 hU hW, by rw [hU], by rw [hU]; exact hP.sub (ws' := [(h0, .inr (3, [.int th, .ref ta, .int zs, .int pq, .int fb, .ref da, .ref ra, .ref la, .long we, .long le, .int pk, .int pm, .int co, .ref pa, .int pl, .ref xa, .ref ya, .int mb, .ref ea, .ref wa]))]) [0] rfl, (hD.sub (ws' := [(h0, .inr (3, [.int th, .ref ta, .int zs, .int pq, .int fb, .ref da, .ref ra, .ref la, .long we, .long le, .int pk, .int pm, .int co, .ref pa, .int pl, .ref xa, .ref ya, .int mb, .ref ea, .ref wa]))]) [0] (by decide) rfl).weaken (fun _ q _ h => hA0 q.1 h)⟩⟩ rfl rfl hl.1 rfl (lv_room (Nat.le_of_ble_eq_true rfl)) dR_word_71 ⟨Nat.le_of_ble_eq_true rfl, Nat.le_of_ble_eq_true rfl⟩) hP hD hS hA [0] [1, 2] rfl rfl (by decide) (by decide) ?_
                rintro _ _ H locs ⟨rfl, rfl⟩ hP hD hS
                have hP : va_P (dC, dI) classes [(ta, .inl (cI, 200, .inl tf)), (la, .inl (cI, 35, .inl lf)), (h0, .inr (3, [.int th, .ref ta, .int zs, .int (gR_must_3 pq fb so), .int (gR_must_4 pq fb so), .ref da, .ref ra, .ref la, .long we, .long le, .int pk, .int pm, .int co, .ref pa, .int pl, .ref xa, .ref ya, .int mb, .ref ea, .ref wa]))] H := hP
                have hD : va_D A [(ta, .inl (cI, 200, .inl tf)), (la, .inl (cI, 35, .inl lf)), (h0, .inr (3, [.int th, .ref ta, .int zs, .int (gR_must_3 pq fb so), .int (gR_must_4 pq fb so), .ref da, .ref ra, .ref la, .long we, .long le, .int pk, .int pm, .int co, .ref pa, .int pl, .ref xa, .ref ya, .int mb, .ref ea, .ref wa]))] := hD
                refine lv_goto (tgt := 5) hx hb dR_word_74 (by decide) ?_
                have v_inv : xv_I n_5 po (gR_must_3 pq fb so) (gR_must_4 pq fb so) := xv_s hinv_5 hs9 c_1 hinv_26.2
                have v_0 : gR_word tf lf zs po fa = kR_word_5a_0 tf lf zs po fa n_5 (gR_must_3 pq fb so) (gR_must_4 pq fb so) := hres_26_0.trans ((if_pos c_5).trans (rfl))
                have v_1 : gR_word_3 tf lf zs po fa = kR_word_5a_1 tf lf zs po fa n_5 (gR_must_3 pq fb so) (gR_must_4 pq fb so) := hres_26_1.trans ((if_pos c_5).trans (rfl))
                have v_2 : gR_word_4 tf lf zs po fa = kR_word_5a_2 tf lf zs po fa n_5 (gR_must_3 pq fb so) (gR_must_4 pq fb so) := hres_26_2.trans ((if_pos c_5).trans (rfl))
                exact ih_5 (gR_must_3 pq fb so) (gR_must_4 pq fb so) v_inv v_0 v_1 v_2 _ _ (hP.sub (ws' := [(h0, .inr (3, [.int th, .ref ta, .int zs, .int (gR_must_3 pq fb so), .int (gR_must_4 pq fb so), .ref da, .ref ra, .ref la, .long we, .long le, .int pk, .int pm, .int co, .ref pa, .int pl, .ref xa, .ref ya, .int mb, .ref ea, .ref wa])), (ta, .inl (cI, 200, .inl tf)), (la, .inl (cI, 35, .inl lf))]) [2, 0, 1] rfl) (hD.sub (ws' := [(h0, .inr (3, [.int th, .ref ta, .int zs, .int (gR_must_3 pq fb so), .int (gR_must_4 pq fb so), .ref da, .ref ra, .ref la, .long we, .long le, .int pk, .int pm, .int co, .ref pa, .int pl, .ref xa, .ref ya, .int mb, .ref ea, .ref wa])), (ta, .inl (cI, 200, .inl tf)), (la, .inl (cI, 35, .inl lf))]) [2, 0, 1] (by decide) rfl) hS ls (lv_sub hl [2, 3] rfl)
              · refine lv_iload_n hx hb dR_word_32 rfl (lv_at hl 0 rfl) ?_
                refine lv_if_ne (tgt := 57) hx hb dR_word_33 (by decide) (fun c_6 => ?_) (fun c_6 => ?_)
                · refine lv_iconst (v := 1) hx hb dR_word_57 (by decide) ?_
                  refine lv_goto (tgt := 62) hx hb dR_word_58 (by decide) ?_
                  refine lv_istore_n (lv' := [(2, .int 1), (3, .int ww), (1, .int po), (0, .ref h0)]) hx hb dR_word_62 rfl hl (by decide) rfl (fun ls hl => ?_)
                  refine lv_iinc (v := ww + 1) (lv' := [(3, .int (ww + 1)), (2, .int 1), (1, .int po), (0, .ref h0)]) hx hb dR_word_63 hl (k := 1) rfl rfl (by decide) rfl (fun ls hl => ?_)
                  refine lv_goto (tgt := 26) hx hb dR_word_66 (by decide) ?_
                  have v_inv : xl_c 0 7 n_26 (ww + 1) ∧ (¬ (1 : Int32) = 0 → ¬ zs ≤ pq ∧ ¬ 5 ≤ pq - po) := ⟨xl_s1 (b := 7) hinv_26.1 (by decide) (by decide) c_5, fun _ => hinv_26.2 c_6⟩
                  have v_0 : gR_word tf lf zs po fa = kR_word_26a_0 tf lf zs po fa pq fb (fun pq fb => kR_word_5a_0 tf lf zs po fa n_5 pq fb) n_26 (1) (ww + 1) := hres_26_0.trans ((if_neg c_5).trans ((if_neg c_6).trans (rfl)))
                  have v_1 : gR_word_3 tf lf zs po fa = kR_word_26a_1 tf lf zs po fa pq fb (fun pq fb => kR_word_5a_1 tf lf zs po fa n_5 pq fb) n_26 (1) (ww + 1) := hres_26_1.trans ((if_neg c_5).trans ((if_neg c_6).trans (rfl)))
                  have v_2 : gR_word_4 tf lf zs po fa = kR_word_26a_2 tf lf zs po fa pq fb (fun pq fb => kR_word_5a_2 tf lf zs po fa n_5 pq fb) n_26 (1) (ww + 1) := hres_26_2.trans ((if_neg c_5).trans ((if_neg c_6).trans (rfl)))
                  exact ih_26 (1) (ww + 1) v_inv v_0 v_1 v_2 _ _ (hP.sub (ws' := [(h0, .inr (3, [.int th, .ref ta, .int zs, .int pq, .int fb, .ref da, .ref ra, .ref la, .long we, .long le, .int pk, .int pm, .int co, .ref pa, .int pl, .ref xa, .ref ya, .int mb, .ref ea, .ref wa])), (ta, .inl (cI, 200, .inl tf)), (la, .inl (cI, 35, .inl lf))]) [0, 1, 2] rfl) (hD.sub (ws' := [(h0, .inr (3, [.int th, .ref ta, .int zs, .int pq, .int fb, .ref da, .ref ra, .ref la, .long we, .long le, .int pk, .int pm, .int co, .ref pa, .int pl, .ref xa, .ref ya, .int mb, .ref ea, .ref wa])), (ta, .inl (cI, 200, .inl tf)), (la, .inl (cI, 35, .inl lf))]) [0, 1, 2] (by decide) rfl) hS ls (lv_sub hl [1, 0, 2, 3] rfl)
                · refine lv_aload_n hx hb dR_word_36 rfl (lv_at hl 3 rfl) ?_
                  refine xb_rd (W.runV (C := "NailRulesModel") (As := []) (rest := []) ⟨hx, hb, hml, hown, hts⟩ (cR_now l E h0 ([.int th, .ref ta, .int zs, .int pq, .int fb, .ref da, .ref ra, .ref la, .long we, .long le, .int pk, .int pm, .int co, .ref pa, .int pl, .ref xa, .ref ya, .int mb, .ref ea, .ref wa]) ta tf zs pq rfl rfl rfl (xv_0 hinv_5) (hs9)) (cwV 0 hts (xb_gi (List.forall_mem_cons.mpr ⟨xk_715, List.forall_mem_cons.mpr ⟨xk_717, List.forall_mem_cons.mpr ⟨xk_27, List.forall_mem_cons.mpr ⟨xk_45, List.forall_mem_cons.mpr ⟨xk_718, fun _ h => absurd h List.not_mem_nil⟩⟩⟩⟩⟩)) rfl rfl rfl (by decide +kernel) ⟨Nat.le_of_ble_eq_true rfl, Nat.le_of_ble_eq_true rfl⟩) ⟨fun _ _ _ _ q => q, va_recv hK hP (ci := 3) (q0 := 0) rfl rfl, fun U hU hW => ⟨rfl, xb_atS hAt hS hA0 hU hW, by rw [hU]; exact hP.sub (ws' := [(h0, .inr (3, [.int th, .ref ta, .int zs, .int pq, .int fb, .ref da, .ref ra, .ref la, .long we, .long le, .int pk, .int pm, .int co, .ref pa, .int pl, .ref xa, .ref ya, .int mb, .ref ea, .ref wa])), (ta, .inl (cI, 200, .inl tf))]) [0, 1] rfl⟩⟩ rfl rfl hl.1 rfl (lv_room (Nat.le_of_ble_eq_true rfl)) dR_word_37 ⟨Nat.zero_le _, Nat.zero_le _⟩) ?_
                  refine lv_iconst (v := (-1)) hx hb dR_word_40 (by decide) ?_
                  refine lv_icmp_eq (tgt := 61) hx hb dR_word_41 (by decide) (fun c_7 => ?_) (fun c_7 => ?_)
                  · refine lv_iconst (v := 0) hx hb dR_word_61 (by decide) ?_
                    refine lv_istore_n (lv' := [(2, .int 0), (3, .int ww), (1, .int po), (0, .ref h0)]) hx hb dR_word_62 rfl hl (by decide) rfl (fun ls hl => ?_)
                    refine lv_iinc (v := ww + 1) (lv' := [(3, .int (ww + 1)), (2, .int 0), (1, .int po), (0, .ref h0)]) hx hb dR_word_63 hl (k := 1) rfl rfl (by decide) rfl (fun ls hl => ?_)
                    refine lv_goto (tgt := 26) hx hb dR_word_66 (by decide) ?_
                    have v_inv : xl_c 0 7 n_26 (ww + 1) ∧ (¬ (0 : Int32) = 0 → ¬ zs ≤ pq ∧ ¬ 5 ≤ pq - po) := ⟨xl_s1 (b := 7) hinv_26.1 (by decide) (by decide) c_5, fun h => absurd rfl h⟩
                    have v_0 : gR_word tf lf zs po fa = kR_word_26a_0 tf lf zs po fa pq fb (fun pq fb => kR_word_5a_0 tf lf zs po fa n_5 pq fb) n_26 (0) (ww + 1) := hres_26_0.trans ((if_neg c_5).trans ((if_pos c_6).trans ((if_pos c_7).trans (rfl))))
                    have v_1 : gR_word_3 tf lf zs po fa = kR_word_26a_1 tf lf zs po fa pq fb (fun pq fb => kR_word_5a_1 tf lf zs po fa n_5 pq fb) n_26 (0) (ww + 1) := hres_26_1.trans ((if_neg c_5).trans ((if_pos c_6).trans ((if_pos c_7).trans (rfl))))
                    have v_2 : gR_word_4 tf lf zs po fa = kR_word_26a_2 tf lf zs po fa pq fb (fun pq fb => kR_word_5a_2 tf lf zs po fa n_5 pq fb) n_26 (0) (ww + 1) := hres_26_2.trans ((if_neg c_5).trans ((if_pos c_6).trans ((if_pos c_7).trans (rfl))))
                    exact ih_26 (0) (ww + 1) v_inv v_0 v_1 v_2 _ _ (hP.sub (ws' := [(h0, .inr (3, [.int th, .ref ta, .int zs, .int pq, .int fb, .ref da, .ref ra, .ref la, .long we, .long le, .int pk, .int pm, .int co, .ref pa, .int pl, .ref xa, .ref ya, .int mb, .ref ea, .ref wa])), (ta, .inl (cI, 200, .inl tf)), (la, .inl (cI, 35, .inl lf))]) [0, 1, 2] rfl) (hD.sub (ws' := [(h0, .inr (3, [.int th, .ref ta, .int zs, .int pq, .int fb, .ref da, .ref ra, .ref la, .long we, .long le, .int pk, .int pm, .int co, .ref pa, .int pl, .ref xa, .ref ya, .int mb, .ref ea, .ref wa])), (ta, .inl (cI, 200, .inl tf)), (la, .inl (cI, 35, .inl lf))]) [0, 1, 2] (by decide) rfl) hS ls (lv_sub hl [1, 0, 2, 3] rfl)
                  · refine lv_aload_n hx hb dR_word_44 rfl (lv_at hl 3 rfl) ?_
                    refine lv_iload_n hx hb dR_word_45 rfl (lv_at hl 1 rfl) ?_
                    refine lv_iload_n hx hb dR_word_46 rfl (lv_at hl 2 rfl) ?_
                    refine lv_aload_n hx hb dR_word_47 rfl (lv_at hl 3 rfl) ?_
                    refine xb_rd (W.runV (C := "NailRulesModel") (As := []) (rest := [.int po, .int ww, .ref h0]) ⟨hx, hb, hml, hown, hts⟩ (cR_now l E h0 ([.int th, .ref ta, .int zs, .int pq, .int fb, .ref da, .ref ra, .ref la, .long we, .long le, .int pk, .int pm, .int co, .ref pa, .int pl, .ref xa, .ref ya, .int mb, .ref ea, .ref wa]) ta tf zs pq rfl rfl rfl (xv_0 hinv_5) (hs9)) (cwV 0 hts (xb_gi (List.forall_mem_cons.mpr ⟨xk_715, List.forall_mem_cons.mpr ⟨xk_717, List.forall_mem_cons.mpr ⟨xk_27, List.forall_mem_cons.mpr ⟨xk_45, List.forall_mem_cons.mpr ⟨xk_718, fun _ h => absurd h List.not_mem_nil⟩⟩⟩⟩⟩)) rfl rfl rfl (by decide +kernel) ⟨Nat.le_of_ble_eq_true rfl, Nat.le_of_ble_eq_true rfl⟩) ⟨fun _ _ _ _ q => q, va_recv hK hP (ci := 3) (q0 := 0) rfl rfl, fun U hU hW => ⟨rfl, xb_atS hAt hS hA0 hU hW, by rw [hU]; exact hP.sub (ws' := [(h0, .inr (3, [.int th, .ref ta, .int zs, .int pq, .int fb, .ref da, .ref ra, .ref la, .long we, .long le, .int pk, .int pm, .int co, .ref pa, .int pl, .ref xa, .ref ya, .int mb, .ref ea, .ref wa])), (ta, .inl (cI, 200, .inl tf))]) [0, 1] rfl⟩⟩ rfl rfl hl.1 rfl (lv_room (Nat.le_of_ble_eq_true rfl)) dR_word_48 ⟨Nat.zero_le _, Nat.zero_le _⟩) ?_
                    refine xb_rd (W.runV (C := "NailRulesModel") (As := [.int ww, .int po, .int (fR_now tf zs pq)]) (rest := []) ⟨hx, hb, hml, hown, hts⟩ (cR_may l E h0 ([.int th, .ref ta, .int zs, .int pq, .int fb, .ref da, .ref ra, .ref la, .long we, .long le, .int pk, .int pm, .int co, .ref pa, .int pl, .ref xa, .ref ya, .int mb, .ref ea, .ref wa]) ta tf la lf pq ww po (fR_now tf zs pq) rfl rfl rfl (xm_5 hinv_26.1 c_5) (xv_fp hinv_5)) (cwV 3 hts (xb_gi (List.forall_mem_cons.mpr ⟨xk_734, List.forall_mem_cons.mpr ⟨xk_736, List.forall_mem_cons.mpr ⟨xk_31, List.forall_mem_cons.mpr ⟨xk_45, List.forall_mem_cons.mpr ⟨xk_737, fun _ h => absurd h List.not_mem_nil⟩⟩⟩⟩⟩)) rfl rfl rfl (by decide +kernel) ⟨Nat.le_of_ble_eq_true rfl, Nat.le_of_ble_eq_true rfl⟩) ⟨fun _ _ _ _ q => q, va_recv hK hP (ci := 3) (q0 := 0) rfl rfl, fun U hU hW => ⟨rfl, xb_atS hAt hS hA0 hU hW, by rw [hU]; exact hP.sub (ws' := [(h0, .inr (3, [.int th, .ref ta, .int zs, .int pq, .int fb, .ref da, .ref ra, .ref la, .long we, .long le, .int pk, .int pm, .int co, .ref pa, .int pl, .ref xa, .ref ya, .int mb, .ref ea, .ref wa])), (ta, .inl (cI, 200, .inl tf)), (la, .inl (cI, 35, .inl lf))]) [0, 1, 2] rfl⟩⟩ rfl rfl hl.1 rfl (lv_room (Nat.le_of_ble_eq_true rfl)) dR_word_51 ⟨Nat.zero_le _, Nat.zero_le _⟩) ?_
                    refine lv_if_eq (tgt := 61) hx hb dR_word_54 (by decide) (fun c_8 => ?_) (fun c_8 => ?_)
                    · have c_8 := xb_bi_f.mp c_8
                      refine lv_iconst (v := 0) hx hb dR_word_61 (by decide) ?_
                      refine lv_istore_n (lv' := [(2, .int 0), (3, .int ww), (1, .int po), (0, .ref h0)]) hx hb dR_word_62 rfl hl (by decide) rfl (fun ls hl => ?_)
                      refine lv_iinc (v := ww + 1) (lv' := [(3, .int (ww + 1)), (2, .int 0), (1, .int po), (0, .ref h0)]) hx hb dR_word_63 hl (k := 1) rfl rfl (by decide) rfl (fun ls hl => ?_)
                      refine lv_goto (tgt := 26) hx hb dR_word_66 (by decide) ?_
                      have v_inv : xl_c 0 7 n_26 (ww + 1) ∧ (¬ (0 : Int32) = 0 → ¬ zs ≤ pq ∧ ¬ 5 ≤ pq - po) := ⟨xl_s1 (b := 7) hinv_26.1 (by decide) (by decide) c_5, fun h => absurd rfl h⟩
                      have v_0 : gR_word tf lf zs po fa = kR_word_26a_0 tf lf zs po fa pq fb (fun pq fb => kR_word_5a_0 tf lf zs po fa n_5 pq fb) n_26 (0) (ww + 1) := hres_26_0.trans ((if_neg c_5).trans ((if_pos c_6).trans ((if_neg c_7).trans ((if_neg c_8).trans (rfl)))))
                      have v_1 : gR_word_3 tf lf zs po fa = kR_word_26a_1 tf lf zs po fa pq fb (fun pq fb => kR_word_5a_1 tf lf zs po fa n_5 pq fb) n_26 (0) (ww + 1) := hres_26_1.trans ((if_neg c_5).trans ((if_pos c_6).trans ((if_neg c_7).trans ((if_neg c_8).trans (rfl)))))
                      have v_2 : gR_word_4 tf lf zs po fa = kR_word_26a_2 tf lf zs po fa pq fb (fun pq fb => kR_word_5a_2 tf lf zs po fa n_5 pq fb) n_26 (0) (ww + 1) := hres_26_2.trans ((if_neg c_5).trans ((if_pos c_6).trans ((if_neg c_7).trans ((if_neg c_8).trans (rfl)))))
                      exact ih_26 (0) (ww + 1) v_inv v_0 v_1 v_2 _ _ (hP.sub (ws' := [(h0, .inr (3, [.int th, .ref ta, .int zs, .int pq, .int fb, .ref da, .ref ra, .ref la, .long we, .long le, .int pk, .int pm, .int co, .ref pa, .int pl, .ref xa, .ref ya, .int mb, .ref ea, .ref wa])), (ta, .inl (cI, 200, .inl tf)), (la, .inl (cI, 35, .inl lf))]) [0, 1, 2] rfl) (hD.sub (ws' := [(h0, .inr (3, [.int th, .ref ta, .int zs, .int pq, .int fb, .ref da, .ref ra, .ref la, .long we, .long le, .int pk, .int pm, .int co, .ref pa, .int pl, .ref xa, .ref ya, .int mb, .ref ea, .ref wa])), (ta, .inl (cI, 200, .inl tf)), (la, .inl (cI, 35, .inl lf))]) [0, 1, 2] (by decide) rfl) hS ls (lv_sub hl [1, 0, 2, 3] rfl)
                    · have c_8 := xb_bi_t.mp c_8
                      refine lv_iconst (v := 1) hx hb dR_word_57 (by decide) ?_
                      refine lv_goto (tgt := 62) hx hb dR_word_58 (by decide) ?_
                      refine lv_istore_n (lv' := [(2, .int 1), (3, .int ww), (1, .int po), (0, .ref h0)]) hx hb dR_word_62 rfl hl (by decide) rfl (fun ls hl => ?_)
                      refine lv_iinc (v := ww + 1) (lv' := [(3, .int (ww + 1)), (2, .int 1), (1, .int po), (0, .ref h0)]) hx hb dR_word_63 hl (k := 1) rfl rfl (by decide) rfl (fun ls hl => ?_)
                      refine lv_goto (tgt := 26) hx hb dR_word_66 (by decide) ?_
                      have v_inv : xl_c 0 7 n_26 (ww + 1) ∧ (¬ (1 : Int32) = 0 → ¬ zs ≤ pq ∧ ¬ 5 ≤ pq - po) := ⟨xl_s1 (b := 7) hinv_26.1 (by decide) (by decide) c_5, fun _ => xv_m c_7 c_8⟩
                      have v_0 : gR_word tf lf zs po fa = kR_word_26a_0 tf lf zs po fa pq fb (fun pq fb => kR_word_5a_0 tf lf zs po fa n_5 pq fb) n_26 (1) (ww + 1) := hres_26_0.trans ((if_neg c_5).trans ((if_pos c_6).trans ((if_neg c_7).trans ((if_pos c_8).trans (rfl)))))
                      have v_1 : gR_word_3 tf lf zs po fa = kR_word_26a_1 tf lf zs po fa pq fb (fun pq fb => kR_word_5a_1 tf lf zs po fa n_5 pq fb) n_26 (1) (ww + 1) := hres_26_1.trans ((if_neg c_5).trans ((if_pos c_6).trans ((if_neg c_7).trans ((if_pos c_8).trans (rfl)))))
                      have v_2 : gR_word_4 tf lf zs po fa = kR_word_26a_2 tf lf zs po fa pq fb (fun pq fb => kR_word_5a_2 tf lf zs po fa n_5 pq fb) n_26 (1) (ww + 1) := hres_26_2.trans ((if_neg c_5).trans ((if_pos c_6).trans ((if_neg c_7).trans ((if_pos c_8).trans (rfl)))))
                      exact ih_26 (1) (ww + 1) v_inv v_0 v_1 v_2 _ _ (hP.sub (ws' := [(h0, .inr (3, [.int th, .ref ta, .int zs, .int pq, .int fb, .ref da, .ref ra, .ref la, .long we, .long le, .int pk, .int pm, .int co, .ref pa, .int pl, .ref xa, .ref ya, .int mb, .ref ea, .ref wa])), (ta, .inl (cI, 200, .inl tf)), (la, .inl (cI, 35, .inl lf))]) [0, 1, 2] rfl) (hD.sub (ws' := [(h0, .inr (3, [.int th, .ref ta, .int zs, .int pq, .int fb, .ref da, .ref ra, .ref la, .long we, .long le, .int pk, .int pm, .int co, .ref pa, .int pl, .ref xa, .ref ya, .int mb, .ref ea, .ref wa])), (ta, .inl (cI, 200, .inl tf)), (la, .inl (cI, 35, .inl lf))]) [0, 1, 2] (by decide) rfl) hS ls (lv_sub hl [1, 0, 2, 3] rfl)
          have v_inv : xl_c 0 7 8 (0 : Int32) ∧ (¬ (0 : Int32) = 0 → ¬ zs ≤ pq ∧ ¬ 5 ≤ pq - po) := ⟨⟨0, rfl, by omega, by omega, by omega⟩, fun h => absurd rfl h⟩
          have v_0 : gR_word tf lf zs po fa = kR_word_26a_0 tf lf zs po fa pq fb (fun pq fb => kR_word_5a_0 tf lf zs po fa n_5 pq fb) 8 (0) (0) := hres_5_0.trans ((if_pos c_1).trans ((if_pos c_3).trans (rfl)))
          have v_1 : gR_word_3 tf lf zs po fa = kR_word_26a_1 tf lf zs po fa pq fb (fun pq fb => kR_word_5a_1 tf lf zs po fa n_5 pq fb) 8 (0) (0) := hres_5_1.trans ((if_pos c_1).trans ((if_pos c_3).trans (rfl)))
          have v_2 : gR_word_4 tf lf zs po fa = kR_word_26a_2 tf lf zs po fa pq fb (fun pq fb => kR_word_5a_2 tf lf zs po fa n_5 pq fb) 8 (0) (0) := hres_5_2.trans ((if_pos c_1).trans ((if_pos c_3).trans (rfl)))
          exact lp_26 8 (0) (0) v_inv v_0 v_1 v_2 _ _ (hP.sub (ws' := [(h0, .inr (3, [.int th, .ref ta, .int zs, .int pq, .int fb, .ref da, .ref ra, .ref la, .long we, .long le, .int pk, .int pm, .int co, .ref pa, .int pl, .ref xa, .ref ya, .int mb, .ref ea, .ref wa])), (ta, .inl (cI, 200, .inl tf)), (la, .inl (cI, 35, .inl lf))]) [0, 1, 2] rfl) (hD.sub (ws' := [(h0, .inr (3, [.int th, .ref ta, .int zs, .int pq, .int fb, .ref da, .ref ra, .ref la, .long we, .long le, .int pk, .int pm, .int co, .ref pa, .int pl, .ref xa, .ref ya, .int mb, .ref ea, .ref wa])), (ta, .inl (cI, 200, .inl tf)), (la, .inl (cI, 35, .inl lf))]) [0, 1, 2] (by decide) rfl) hS ls (lv_sub hl [1, 0, 2, 3] rfl)
  have v_inv : xv_I 7 po po fa := xv_i hp9
  have v_0 : gR_word tf lf zs po fa = kR_word_5a_0 tf lf zs po fa 7 po fa := rfl
  have v_1 : gR_word_3 tf lf zs po fa = kR_word_5a_1 tf lf zs po fa 7 po fa := rfl
  have v_2 : gR_word_4 tf lf zs po fa = kR_word_5a_2 tf lf zs po fa 7 po fa := rfl
  exact lp_5 7 po fa v_inv v_0 v_1 v_2 _ _ (hP.sub (ws' := [(h0, .inr (3, [.int th, .ref ta, .int zs, .int po, .int fa, .ref da, .ref ra, .ref la, .long we, .long le, .int pk, .int pm, .int co, .ref pa, .int pl, .ref xa, .ref ya, .int mb, .ref ea, .ref wa])), (ta, .inl (cI, 200, .inl tf)), (la, .inl (cI, 35, .inl lf))]) [0, 1, 2] rfl) (hD.sub (ws' := [(h0, .inr (3, [.int th, .ref ta, .int zs, .int po, .int fa, .ref da, .ref ra, .ref la, .long we, .long le, .int pk, .int pm, .int co, .ref pa, .int pl, .ref xa, .ref ya, .int mb, .ref ea, .ref wa])), (ta, .inl (cI, 200, .inl tf)), (la, .inl (cI, 35, .inl lf))]) [0, 1, 2] (by decide) rfl) hS ls (lv_sub hl [0, 1] rfl)

def kR_teeth_94a_0 (ef : Nat → Int32) (wf : Nat → Int32) (mb : Int32) (m1 : Int32) (x : Int32) (y : Int32) (w : Int32) (h : Int32) (stp : Int32) : Nat → Int32 → Int32 → Int32
  | 0, _, _ => default
  | n_94 + 1, nn, wi => nn
def kR_teeth_94a_1 (ef : Nat → Int32) (wf : Nat → Int32) (mb : Int32) (m1 : Int32) (x : Int32) (y : Int32) (w : Int32) (h : Int32) (stp : Int32) : Nat → Int32 → Int32 → Int32
  | 0, _, _ => default
  | n_94 + 1, nn, wi => (2)
def kR_teeth_94b_0 (ef : Nat → Int32) (wf : Nat → Int32) (mb : Int32) (m1 : Int32) (x : Int32) (y : Int32) (w : Int32) (h : Int32) (stp : Int32) : Nat → Int32 → Int32 → Int32
  | 0, _, _ => default
  | n_94 + 1, nn, wi => nn
def kR_teeth_94b_1 (ef : Nat → Int32) (wf : Nat → Int32) (mb : Int32) (m1 : Int32) (x : Int32) (y : Int32) (w : Int32) (h : Int32) (stp : Int32) : Nat → Int32 → Int32 → Int32
  | 0, _, _ => default
  | n_94 + 1, nn, wi => (1)
def kR_teeth_94c_0 (ef : Nat → Int32) (wf : Nat → Int32) (mb : Int32) (m1 : Int32) (x : Int32) (y : Int32) (w : Int32) (h : Int32) (stp : Int32) : Nat → Int32 → Int32 → Int32
  | 0, _, _ => default
  | n_94 + 1, nn, wi => nn
def kR_teeth_94c_1 (ef : Nat → Int32) (wf : Nat → Int32) (mb : Int32) (m1 : Int32) (x : Int32) (y : Int32) (w : Int32) (h : Int32) (stp : Int32) : Nat → Int32 → Int32 → Int32
  | 0, _, _ => default
  | n_94 + 1, nn, wi => (2)
def kR_teeth_94d_0 (ef : Nat → Int32) (wf : Nat → Int32) (mb : Int32) (m1 : Int32) (x : Int32) (y : Int32) (w : Int32) (h : Int32) (stp : Int32) : Nat → Int32 → Int32 → Int32
  | 0, _, _ => default
  | n_94 + 1, nn, wi => nn
def kR_teeth_94d_1 (ef : Nat → Int32) (wf : Nat → Int32) (mb : Int32) (m1 : Int32) (x : Int32) (y : Int32) (w : Int32) (h : Int32) (stp : Int32) : Nat → Int32 → Int32 → Int32
  | 0, _, _ => default
  | n_94 + 1, nn, wi => (1)
def kR_teeth_94e_0 (ef : Nat → Int32) (wf : Nat → Int32) (mb : Int32) (m1 : Int32) (x : Int32) (y : Int32) (w : Int32) (h : Int32) (stp : Int32) : Nat → Int32 → Int32 → Int32
  | 0, _, _ => default
  | n_94 + 1, nn, wi => nn
def kR_teeth_94e_1 (ef : Nat → Int32) (wf : Nat → Int32) (mb : Int32) (m1 : Int32) (x : Int32) (y : Int32) (w : Int32) (h : Int32) (stp : Int32) : Nat → Int32 → Int32 → Int32
  | 0, _, _ => default
  | n_94 + 1, nn, wi => (2)
def kR_teeth_94f_0 (ef : Nat → Int32) (wf : Nat → Int32) (mb : Int32) (m1 : Int32) (x : Int32) (y : Int32) (w : Int32) (h : Int32) (stp : Int32) : Nat → Int32 → Int32 → Int32
  | 0, _, _ => default
  | n_94 + 1, nn, wi => nn
def kR_teeth_94f_1 (ef : Nat → Int32) (wf : Nat → Int32) (mb : Int32) (m1 : Int32) (x : Int32) (y : Int32) (w : Int32) (h : Int32) (stp : Int32) : Nat → Int32 → Int32 → Int32
  | 0, _, _ => default
  | n_94 + 1, nn, wi => (1)
def kR_teeth_94g_0 (ef : Nat → Int32) (wf : Nat → Int32) (mb : Int32) (m1 : Int32) (x : Int32) (y : Int32) (w : Int32) (h : Int32) (stp : Int32) : Nat → Int32 → Int32 → Int32
  | 0, _, _ => default
  | n_94 + 1, nn, wi => nn
def kR_teeth_94g_1 (ef : Nat → Int32) (wf : Nat → Int32) (mb : Int32) (m1 : Int32) (x : Int32) (y : Int32) (w : Int32) (h : Int32) (stp : Int32) : Nat → Int32 → Int32 → Int32
  | 0, _, _ => default
  | n_94 + 1, nn, wi => (2)
def kR_teeth_94h_0 (ef : Nat → Int32) (wf : Nat → Int32) (mb : Int32) (m1 : Int32) (x : Int32) (y : Int32) (w : Int32) (h : Int32) (stp : Int32) : Nat → Int32 → Int32 → Int32
  | 0, _, _ => default
  | n_94 + 1, nn, wi => nn
def kR_teeth_94h_1 (ef : Nat → Int32) (wf : Nat → Int32) (mb : Int32) (m1 : Int32) (x : Int32) (y : Int32) (w : Int32) (h : Int32) (stp : Int32) : Nat → Int32 → Int32 → Int32
  | 0, _, _ => default
  | n_94 + 1, nn, wi => (1)
def kR_teeth_94i_0 (ef : Nat → Int32) (wf : Nat → Int32) (mb : Int32) (m1 : Int32) (x : Int32) (y : Int32) (w : Int32) (h : Int32) (stp : Int32) : Nat → Int32 → Int32 → Int32
  | 0, _, _ => default
  | n_94 + 1, nn, wi => nn
def kR_teeth_94i_1 (ef : Nat → Int32) (wf : Nat → Int32) (mb : Int32) (m1 : Int32) (x : Int32) (y : Int32) (w : Int32) (h : Int32) (stp : Int32) : Nat → Int32 → Int32 → Int32
  | 0, _, _ => default
  | n_94 + 1, nn, wi => (2)
def kR_teeth_94j_0 (ef : Nat → Int32) (wf : Nat → Int32) (mb : Int32) (m1 : Int32) (x : Int32) (y : Int32) (w : Int32) (h : Int32) (stp : Int32) : Nat → Int32 → Int32 → Int32
  | 0, _, _ => default
  | n_94 + 1, nn, wi => nn
def kR_teeth_94j_1 (ef : Nat → Int32) (wf : Nat → Int32) (mb : Int32) (m1 : Int32) (x : Int32) (y : Int32) (w : Int32) (h : Int32) (stp : Int32) : Nat → Int32 → Int32 → Int32
  | 0, _, _ => default
  | n_94 + 1, nn, wi => (1)
def kR_teeth_111a_0 (ef : Nat → Int32) (wf : Nat → Int32) (mb : Int32) (m1 : Int32) (x : Int32) (y : Int32) (w : Int32) (h : Int32) (stp : Int32) (nn : Int32) (wi : Int32) (K_94 : (Int32 → Int32 → Int32)) : Nat → Int32 → Int32 → Int32
  | 0, _, _ => default
  | n_111 + 1, n2, wj => if h < wj then (K_94 n2 (wi + stp)) else (if (fR_isWithin ef wf m1 ((x + wi).toInt64) ((y + wj).toInt64)) = true then (kR_teeth_111a_0 ef wf mb m1 x y w h stp nn wi K_94 n_111 (n2 + 1) (wj + stp)) else (kR_teeth_111a_0 ef wf mb m1 x y w h stp nn wi K_94 n_111 n2 (wj + stp)))
def kR_teeth_111a_1 (ef : Nat → Int32) (wf : Nat → Int32) (mb : Int32) (m1 : Int32) (x : Int32) (y : Int32) (w : Int32) (h : Int32) (stp : Int32) (nn : Int32) (wi : Int32) (K_94 : (Int32 → Int32 → Int32)) : Nat → Int32 → Int32 → Int32
  | 0, _, _ => default
  | n_111 + 1, n2, wj => if h < wj then (K_94 n2 (wi + stp)) else (if (fR_isWithin ef wf m1 ((x + wi).toInt64) ((y + wj).toInt64)) = true then (kR_teeth_111a_1 ef wf mb m1 x y w h stp nn wi K_94 n_111 (n2 + 1) (wj + stp)) else (kR_teeth_111a_1 ef wf mb m1 x y w h stp nn wi K_94 n_111 n2 (wj + stp)))
def kR_teeth_94k_0 (ef : Nat → Int32) (wf : Nat → Int32) (mb : Int32) (m1 : Int32) (x : Int32) (y : Int32) (w : Int32) (h : Int32) (stp : Int32) : Nat → Int32 → Int32 → Int32
  | 0, _, _ => default
  | n_94 + 1, nn, wi => if w < wi then (nn) else (kR_teeth_111a_0 ef wf mb m1 x y w h stp nn wi (fun nn wi => kR_teeth_94k_0 ef wf mb m1 x y w h stp n_94 nn wi) 201 nn (0))
def kR_teeth_94k_1 (ef : Nat → Int32) (wf : Nat → Int32) (mb : Int32) (m1 : Int32) (x : Int32) (y : Int32) (w : Int32) (h : Int32) (stp : Int32) : Nat → Int32 → Int32 → Int32
  | 0, _, _ => default
  | n_94 + 1, nn, wi => if w < wi then ((0)) else (kR_teeth_111a_1 ef wf mb m1 x y w h stp nn wi (fun nn wi => kR_teeth_94k_1 ef wf mb m1 x y w h stp n_94 nn wi) 201 nn (0))
def kR_teeth_94l_0 (ef : Nat → Int32) (wf : Nat → Int32) (mb : Int32) (m1 : Int32) (x : Int32) (y : Int32) (w : Int32) (h : Int32) (stp : Int32) : Nat → Int32 → Int32 → Int32
  | 0, _, _ => default
  | n_94 + 1, nn, wi => nn
def kR_teeth_94l_1 (ef : Nat → Int32) (wf : Nat → Int32) (mb : Int32) (m1 : Int32) (x : Int32) (y : Int32) (w : Int32) (h : Int32) (stp : Int32) : Nat → Int32 → Int32 → Int32
  | 0, _, _ => default
  | n_94 + 1, nn, wi => (1)
def gR_teeth (ef : Nat → Int32) (wf : Nat → Int32) (mb : Int32) (m1 : Int32) (x : Int32) (y : Int32) (w : Int32) (h : Int32) (stp : Int32) : Int32 := if (fR_isPlace x) = true then (if (fR_isPlace y) = true then (if (fR_isIn w.toInt64 (0) (1000)) = true then (if (fR_isIn h.toInt64 (0) (1000)) = true then (if (fR_isIn stp.toInt64 (10) (1000)) = true then (if (fR_noMember mb m1) = true then (kR_teeth_94l_0 ef wf mb m1 x y w h stp 201 (0) (0)) else (kR_teeth_94k_0 ef wf mb m1 x y w h stp 201 (0) (0))) else (if (fR_noMember mb m1) = true then (kR_teeth_94j_0 ef wf mb m1 x y w h stp 201 (0) (0)) else (kR_teeth_94i_0 ef wf mb m1 x y w h stp 201 (0) (0)))) else (if (fR_noMember mb m1) = true then (kR_teeth_94h_0 ef wf mb m1 x y w h stp 201 (0) (0)) else (kR_teeth_94g_0 ef wf mb m1 x y w h stp 201 (0) (0)))) else (if (fR_noMember mb m1) = true then (kR_teeth_94f_0 ef wf mb m1 x y w h stp 201 (0) (0)) else (kR_teeth_94e_0 ef wf mb m1 x y w h stp 201 (0) (0)))) else (if (fR_noMember mb m1) = true then (kR_teeth_94d_0 ef wf mb m1 x y w h stp 201 (0) (0)) else (kR_teeth_94c_0 ef wf mb m1 x y w h stp 201 (0) (0)))) else (if (fR_noMember mb m1) = true then (kR_teeth_94b_0 ef wf mb m1 x y w h stp 201 (0) (0)) else (kR_teeth_94a_0 ef wf mb m1 x y w h stp 201 (0) (0)))
def gR_teeth_0 (ef : Nat → Int32) (wf : Nat → Int32) (mb : Int32) (m1 : Int32) (x : Int32) (y : Int32) (w : Int32) (h : Int32) (stp : Int32) : Int32 := if (fR_isPlace x) = true then (if (fR_isPlace y) = true then (if (fR_isIn w.toInt64 (0) (1000)) = true then (if (fR_isIn h.toInt64 (0) (1000)) = true then (if (fR_isIn stp.toInt64 (10) (1000)) = true then (if (fR_noMember mb m1) = true then (kR_teeth_94l_1 ef wf mb m1 x y w h stp 201 (0) (0)) else (kR_teeth_94k_1 ef wf mb m1 x y w h stp 201 (0) (0))) else (if (fR_noMember mb m1) = true then (kR_teeth_94j_1 ef wf mb m1 x y w h stp 201 (0) (0)) else (kR_teeth_94i_1 ef wf mb m1 x y w h stp 201 (0) (0)))) else (if (fR_noMember mb m1) = true then (kR_teeth_94h_1 ef wf mb m1 x y w h stp 201 (0) (0)) else (kR_teeth_94g_1 ef wf mb m1 x y w h stp 201 (0) (0)))) else (if (fR_noMember mb m1) = true then (kR_teeth_94f_1 ef wf mb m1 x y w h stp 201 (0) (0)) else (kR_teeth_94e_1 ef wf mb m1 x y w h stp 201 (0) (0)))) else (if (fR_noMember mb m1) = true then (kR_teeth_94d_1 ef wf mb m1 x y w h stp 201 (0) (0)) else (kR_teeth_94c_1 ef wf mb m1 x y w h stp 201 (0) (0)))) else (if (fR_noMember mb m1) = true then (kR_teeth_94b_1 ef wf mb m1 x y w h stp 201 (0) (0)) else (kR_teeth_94a_1 ef wf mb m1 x y w h stp 201 (0) (0)))
set_option maxHeartbeats 4000000 in
set_option maxRecDepth 100000 in
theorem cR_teeth (l : Launch) {s0 : State} {dC : Nat → ClassId} {dI : Nat → Nat → Nat} {cI cC cL cO : ClassId} (E : xb_Env l s0 dC dI (xtys cI cC cL cO)) (sz : Nat) (h0 : Nat) (ea : Nat) (wa : Nat) (th : Int32) (ta : Nat) (zs : Int32) (po : Int32) (fa : Int32) (da : Nat) (ra : Nat) (la : Nat) (we : Int64) (le : Int64) (pk : Int32) (pm : Int32) (co : Int32) (pa : Nat) (pl : Int32) (xa : Nat) (ya : Nat) (mb : Int32) (ef : Nat → Int32) (wf : Nat → Int32) (m1 : Int32) (x : Int32) (y : Int32) (w : Int32) (h : Int32) (stp : Int32) (m6 : mb ≤ 6) : Met l yR_teeth [.code yR_teeth bR_teeth 11 (some (.int))] ({ frames := 2, cells := 0, slots := 0, locals := 45 }) (va_Pc [.ref h0, .int m1, .int x, .int y, .int w, .int h, .int stp] (fun U => xb_At s0 U ∧ U.heap.size = sz ∧ va_P (dC, dI) classes [(h0, .inr (3, [.int th, .ref ta, .int zs, .int po, .int fa, .ref da, .ref ra, .ref la, .long we, .long le, .int pk, .int pm, .int co, .ref pa, .int pl, .ref xa, .ref ya, .int mb, .ref ea, .ref wa])), (ea, .inl (cI, 24, .inl ef)), (wa, .inl (cI, 6, .inl wf))] U.heap ∧ va_D (fun q => s0.heap.size ≤ q) [(h0, .inr (3, [.int th, .ref ta, .int zs, .int po, .int fa, .ref da, .ref ra, .ref la, .long we, .long le, .int pk, .int pm, .int co, .ref pa, .int pl, .ref xa, .ref ya, .int mb, .ref ea, .ref wa])), (ea, .inl (cI, 24, .inl ef)), (wa, .inl (cI, 6, .inl wf))])) (xb_W (dC, dI) (fun v9 w9 => v9 = some (.int (gR_teeth ef wf mb m1 x y w h stp)) ∧ w9 = [(h0, .inr (3, [.int (gR_teeth_0 ef wf mb m1 x y w h stp), .ref ta, .int zs, .int po, .int fa, .ref da, .ref ra, .ref la, .long we, .long le, .int pk, .int pm, .int co, .ref pa, .int pl, .ref xa, .ref ya, .int mb, .ref ea, .ref wa])), (ea, .inl (cI, 24, .inl ef)), (wa, .inl (cI, 6, .inl wf))]) (va_A [(h0, .inr (3, [.int th, .ref ta, .int zs, .int po, .int fa, .ref da, .ref ra, .ref la, .long we, .long le, .int pk, .int pm, .int co, .ref pa, .int pl, .ref xa, .ref ya, .int mb, .ref ea, .ref wa])), (ea, .inl (cI, 24, .inl ef)), (wa, .inl (cI, 6, .inl wf))] sz)) 0 0 (va_A [(h0, .inr (3, [.int th, .ref ta, .int zs, .int po, .int fa, .ref da, .ref ra, .ref la, .long we, .long le, .int pk, .int pm, .int co, .ref pa, .int pl, .ref xa, .ref ya, .int mb, .ref ea, .ref wa])), (ea, .inl (cI, 24, .inl ef)), (wa, .inl (cI, 6, .inl wf))] sz) := by
  refine Met.ofW (cc := bR_teeth) (maxL := 11) (ret := (some (.int))) (by decide) rfl ?_
  intro p e s m args below meth c s₁ B hml hv
  obtain ⟨rfl, hAt, hsz, hP, hD0⟩ := hv
  have hx := B.exec
  have hb := B.bytes
  have hr := B.returns
  have hts := xb_hts E hAt ([.ref h0, .int m1, .int x, .int y, .int w, .int h, .int stp] : List Value).toArray
  have hown : s.vm.findClass "NailRulesModel" = some m.cls := findClass_of_methodNamed B.named
  have hlocks := B.notSynchronized
  have hK := xb_K E hAt
  subst hsz
  have hA0 := xb_A0 hAt hD0
  have hD := hD0.self (sz := s.heap.size)
  generalize hAe : va_A [(h0, .inr (3, [.int th, .ref ta, .int zs, .int po, .int fa, .ref da, .ref ra, .ref la, .long we, .long le, .int pk, .int pm, .int co, .ref pa, .int pl, .ref xa, .ref ya, .int mb, .ref ea, .ref wa])), (ea, .inl (cI, 24, .inl ef)), (wa, .inl (cI, 6, .inl wf))] s.heap.size = A at hD hA0 ⊢
  have hA : ∀ q : Nat, s.heap.size ≤ q → A q := fun q h => by rw [← hAe]; exact Or.inr h
  have hS : va_S A s.heap s.heap [] := va_S.rf
  have hl := lv_entry ([.ref h0, .int m1, .int x, .int y, .int w, .int h, .int stp]) (n := 11) (Nat.le_of_ble_eq_true rfl)
  rw [lg_entry_eq]
  generalize (lg_sl ([.ref h0, .int m1, .int x, .int y, .int w, .int h, .int stp]) ++ List.replicate (11 - (lg_sl ([.ref h0, .int m1, .int x, .int y, .int w, .int h, .int stp])).length) Slot.unset).toArray = ls at hl ⊢
  have hl : lv_has ls 11 [(0, .ref h0), (1, .int m1), (2, .int x), (3, .int y), (4, .int w), (5, .int h), (6, .int stp)] := hl
  refine lv_iload_n hx hb dR_teeth_0 rfl (lv_at hl 2 rfl) ?_
  refine xb_rd (W.runS (As := [.int x]) (rest := []) ⟨hx, hb, hml, hown, hts⟩ (cR_isPlace l E x) (cwS 1 hts (xb_gi (List.forall_mem_cons.mpr ⟨xk_819, List.forall_mem_cons.mpr ⟨xk_820, List.forall_mem_cons.mpr ⟨xk_45, List.forall_mem_cons.mpr ⟨xk_821, fun _ h => absurd h List.not_mem_nil⟩⟩⟩⟩)) rfl rfl rfl (by decide +kernel) ⟨Nat.le_of_ble_eq_true rfl, Nat.le_of_ble_eq_true rfl⟩) ⟨fun _ _ _ _ q => q, fun U hU hW => ⟨rfl, xb_atS hAt hS hA0 hU hW, fun k q h => by simp at h⟩⟩ rfl rfl hl.1 rfl (lv_room (Nat.le_of_ble_eq_true rfl)) dR_teeth_1 ⟨Nat.zero_le _, Nat.zero_le _⟩) ?_
  refine lv_if_eq (tgt := 59) hx hb dR_teeth_4 (by decide) (fun c_1 => ?_) (fun c_1 => ?_)
  · have c_1 := xb_bi_f.mp c_1
    refine lv_iconst (v := 0) hx hb dR_teeth_59 (by decide) ?_
    refine lv_istore (lv' := [(7, .int 0), (0, .ref h0), (1, .int m1), (2, .int x), (3, .int y), (4, .int w), (5, .int h), (6, .int stp)]) hx hb dR_teeth_60 hl (by decide) rfl (fun ls hl => ?_)
    refine lv_aload_n hx hb dR_teeth_62 rfl (lv_at hl 1 rfl) ?_
    refine lv_aload_n hx hb dR_teeth_63 rfl (lv_at hl 1 rfl) ?_
    refine lv_iload_n hx hb dR_teeth_64 rfl (lv_at hl 2 rfl) ?_
    refine xb_rd (W.runV (C := "NailRulesModel") (As := [.int m1]) (rest := [.ref h0]) ⟨hx, hb, hml, hown, hts⟩ (cR_noMember l E h0 ([.int th, .ref ta, .int zs, .int po, .int fa, .ref da, .ref ra, .ref la, .long we, .long le, .int pk, .int pm, .int co, .ref pa, .int pl, .ref xa, .ref ya, .int mb, .ref ea, .ref wa]) mb m1 rfl) (cwV 1 hts (xb_gi (List.forall_mem_cons.mpr ⟨xk_828, List.forall_mem_cons.mpr ⟨xk_830, List.forall_mem_cons.mpr ⟨xk_37, List.forall_mem_cons.mpr ⟨xk_45, List.forall_mem_cons.mpr ⟨xk_831, fun _ h => absurd h List.not_mem_nil⟩⟩⟩⟩⟩)) rfl rfl rfl (by decide +kernel) ⟨Nat.le_of_ble_eq_true rfl, Nat.le_of_ble_eq_true rfl⟩) ⟨fun _ _ _ _ q => q, va_recv hK hP (ci := 3) (q0 := 0) rfl rfl, fun U hU hW => ⟨rfl, xb_atS hAt hS hA0 hU hW, by rw [hU]; exact hP.sub (ws' := [(h0, .inr (3, [.int th, .ref ta, .int zs, .int po, .int fa, .ref da, .ref ra, .ref la, .long we, .long le, .int pk, .int pm, .int co, .ref pa, .int pl, .ref xa, .ref ya, .int mb, .ref ea, .ref wa]))]) [0] rfl⟩⟩ rfl rfl hl.1 rfl (lv_room (Nat.le_of_ble_eq_true rfl)) dR_teeth_65 ⟨Nat.zero_le _, Nat.zero_le _⟩) ?_
    refine lv_if_eq (tgt := 75) hx hb dR_teeth_68 (by decide) (fun c_2 => ?_) (fun c_2 => ?_)
    · have c_2 := xb_bi_f.mp c_2
      refine lv_iload hx hb dR_teeth_75 (lv_at hl 0 rfl) ?_
      refine lv_if_eq (tgt := 84) hx hb dR_teeth_77 (by decide) (fun c_3 => ?_) (fun c_3 => ?_)
      · refine lv_iconst (v := 2) hx hb dR_teeth_84 (by decide) ?_
        refine va_put (D := (dC, dI)) (ci := 3) (v := .int 2) (ty := .int) (C := xR_R) (T := xF_R) (N := 20) hx hb hts xi_R xt_R xt_R_ok xn_R hown hK hP hD hS 0 rfl rfl 0 (by decide) (hts _ xk_646) (fun _ h9 => h9) rfl (by decide +kernel) rfl rfl (Nat.le_of_ble_eq_true rfl) dR_teeth_85 (fun H locs hP hD hS => ?_)
        have hP : va_P (dC, dI) classes [(h0, .inr (3, [.int 2, .ref ta, .int zs, .int po, .int fa, .ref da, .ref ra, .ref la, .long we, .long le, .int pk, .int pm, .int co, .ref pa, .int pl, .ref xa, .ref ya, .int mb, .ref ea, .ref wa])), (ea, .inl (cI, 24, .inl ef)), (wa, .inl (cI, 6, .inl wf))] H := hP
        have hD : va_D A [(h0, .inr (3, [.int 2, .ref ta, .int zs, .int po, .int fa, .ref da, .ref ra, .ref la, .long we, .long le, .int pk, .int pm, .int co, .ref pa, .int pl, .ref xa, .ref ya, .int mb, .ref ea, .ref wa])), (ea, .inl (cI, 24, .inl ef)), (wa, .inl (cI, 6, .inl wf))] := hD
        refine lv_iconst (v := 0) hx hb dR_teeth_88 (by decide) ?_
        refine lv_istore (lv' := [(8, .int 0), (7, .int 0), (0, .ref h0), (1, .int m1), (2, .int x), (3, .int y), (4, .int w), (5, .int h), (6, .int stp)]) hx hb dR_teeth_89 hl (by decide) rfl (fun ls hl => ?_)
        refine lv_iconst (v := 0) hx hb dR_teeth_91 (by decide) ?_
        refine lv_istore (lv' := [(9, .int 0), (8, .int 0), (7, .int 0), (0, .ref h0), (1, .int m1), (2, .int x), (3, .int y), (4, .int w), (5, .int h), (6, .int stp)]) hx hb dR_teeth_92 hl (by decide) rfl (fun ls hl => ?_)
        have lp_94 : ∀ (n_94 : Nat) (nn : Int32) (wi : Int32), (xl_t n_94 wi) → gR_teeth ef wf mb m1 x y w h stp = kR_teeth_94a_0 ef wf mb m1 x y w h stp n_94 nn wi → gR_teeth_0 ef wf mb m1 x y w h stp = kR_teeth_94a_1 ef wf mb m1 x y w h stp n_94 nn wi → ∀ (H : Heap) (locs : List Loc), va_P (dC, dI) classes [(h0, .inr (3, [.int 2, .ref ta, .int zs, .int po, .int fa, .ref da, .ref ra, .ref la, .long we, .long le, .int pk, .int pm, .int co, .ref pa, .int pl, .ref xa, .ref ya, .int mb, .ref ea, .ref wa])), (ea, .inl (cI, 24, .inl ef)), (wa, .inl (cI, 6, .inl wf))] H → va_D A [(h0, .inr (3, [.int 2, .ref ta, .int zs, .int po, .int fa, .ref da, .ref ra, .ref la, .long we, .long le, .int pk, .int pm, .int co, .ref pa, .int pl, .ref xa, .ref ya, .int mb, .ref ea, .ref wa])), (ea, .inl (cI, 24, .inl ef)), (wa, .inl (cI, 6, .inl wf))] → va_S A s.heap H locs → ∀ ls : Array Slot, lv_has ls 11 [(8, .int nn), (9, .int wi), (7, .int 0), (0, .ref h0), (1, .int m1), (2, .int x), (3, .int y), (4, .int w), (5, .int h), (6, .int stp)] → W p l e (headSpec [.code yR_teeth bR_teeth 11 (some (.int))] ({ frames := 2, cells := 0, slots := 0, locals := 45 })).room s m ([.ref h0, .int m1, .int x, .int y, .int w, .int h, .int stp] : List Value).toArray below meth c H locs 0 0 (MQ below (xb_W (dC, dI) (fun v9 w9 => v9 = some (.int (gR_teeth ef wf mb m1 x y w h stp)) ∧ w9 = [(h0, .inr (3, [.int (gR_teeth_0 ef wf mb m1 x y w h stp), .ref ta, .int zs, .int po, .int fa, .ref da, .ref ra, .ref la, .long we, .long le, .int pk, .int pm, .int co, .ref pa, .int pl, .ref xa, .ref ya, .int mb, .ref ea, .ref wa])), (ea, .inl (cI, 24, .inl ef)), (wa, .inl (cI, 6, .inl wf))]) A) ([.ref h0, .int m1, .int x, .int y, .int w, .int h, .int stp] : List Value).toArray s 0 0 A) (F0 m 94 ls []) := by
          intro n_94
          induction n_94 with
          | zero =>
            intro nn wi hinv_94
            exact xl_t0 hinv_94
          | succ n_94 ih_94 =>
            intro nn wi hinv_94 hres_94_0 hres_94_1 H locs hP hD hS ls hl
            refine lv_aload_n hx hb dR_teeth_94 rfl (lv_at hl 3 rfl) ?_
            refine va_get (D := (dC, dI)) (ci := 3) (v := .int 2) (C := xR_R) (T := xF_R) (N := 20) hx hb hts xi_R hown hK hP 0 rfl rfl 0 (by decide) (hts _ xk_646) (fun _ h9 => h9) rfl dR_teeth_95 ?_
            refine lv_if_ne (tgt := 167) hx hb dR_teeth_98 (by decide) (fun c_4 => ?_) (fun c_4 => ?_)
            · refine lv_iload hx hb dR_teeth_167 (lv_at hl 0 rfl) ?_
              have e_0 : gR_teeth ef wf mb m1 x y w h stp = nn := hres_94_0.trans (rfl)
              have e_1 : gR_teeth_0 ef wf mb m1 x y w h stp = (2 : Int32) := hres_94_1.trans (rfl)
              have hP9 := hP.sub (ws' := [(h0, .inr (3, [.int 2, .ref ta, .int zs, .int po, .int fa, .ref da, .ref ra, .ref la, .long we, .long le, .int pk, .int pm, .int co, .ref pa, .int pl, .ref xa, .ref ya, .int mb, .ref ea, .ref wa])), (ea, .inl (cI, 24, .inl ef)), (wa, .inl (cI, 6, .inl wf))]) [0, 1, 2] rfl
              have hD9 := hD.sub (ws' := [(h0, .inr (3, [.int 2, .ref ta, .int zs, .int po, .int fa, .ref da, .ref ra, .ref la, .long we, .long le, .int pk, .int pm, .int co, .ref pa, .int pl, .ref xa, .ref ya, .int mb, .ref ea, .ref wa])), (ea, .inl (cI, 24, .inl ef)), (wa, .inl (cI, 6, .inl wf))]) [0, 1, 2] (by decide) rfl
              exact W.iret (v := nn) hx hb hr (fun t ht hW => ⟨_, _, rfl, ⟨by first | rfl | (simp only [e_0, e_1]; try rfl), by first | rfl | (simp only [e_0, e_1]; try rfl)⟩, by rw [ht]; exact hP9, hD9, hS.F ht⟩) hS.2.2 dR_teeth_169
            · exact absurd c_4 (by decide)
        have v_inv : xl_t 201 (0 : Int32) := ⟨0, rfl, by omega, by omega⟩
        have v_0 : gR_teeth ef wf mb m1 x y w h stp = kR_teeth_94a_0 ef wf mb m1 x y w h stp 201 (0) (0) := (if_neg c_1).trans ((if_neg c_2).trans (rfl))
        have v_1 : gR_teeth_0 ef wf mb m1 x y w h stp = kR_teeth_94a_1 ef wf mb m1 x y w h stp 201 (0) (0) := (if_neg c_1).trans ((if_neg c_2).trans (rfl))
        exact lp_94 201 (0) (0) v_inv v_0 v_1 _ _ (hP.sub (ws' := [(h0, .inr (3, [.int 2, .ref ta, .int zs, .int po, .int fa, .ref da, .ref ra, .ref la, .long we, .long le, .int pk, .int pm, .int co, .ref pa, .int pl, .ref xa, .ref ya, .int mb, .ref ea, .ref wa])), (ea, .inl (cI, 24, .inl ef)), (wa, .inl (cI, 6, .inl wf))]) [0, 1, 2] rfl) (hD.sub (ws' := [(h0, .inr (3, [.int 2, .ref ta, .int zs, .int po, .int fa, .ref da, .ref ra, .ref la, .long we, .long le, .int pk, .int pm, .int co, .ref pa, .int pl, .ref xa, .ref ya, .int mb, .ref ea, .ref wa])), (ea, .inl (cI, 24, .inl ef)), (wa, .inl (cI, 6, .inl wf))]) [0, 1, 2] (by decide) rfl) hS ls (lv_sub hl [1, 0, 2, 3, 4, 5, 6, 7, 8, 9] rfl)
      · exact absurd c_3 (by decide)
    · have c_2 := xb_bi_t.mp c_2
      refine lv_iconst (v := 1) hx hb dR_teeth_71 (by decide) ?_
      refine lv_goto (tgt := 85) hx hb dR_teeth_72 (by decide) ?_
      refine va_put (D := (dC, dI)) (ci := 3) (v := .int 1) (ty := .int) (C := xR_R) (T := xF_R) (N := 20) hx hb hts xi_R xt_R xt_R_ok xn_R hown hK hP hD hS 0 rfl rfl 0 (by decide) (hts _ xk_646) (fun _ h9 => h9) rfl (by decide +kernel) rfl rfl (Nat.le_of_ble_eq_true rfl) dR_teeth_85 (fun H locs hP hD hS => ?_)
      have hP : va_P (dC, dI) classes [(h0, .inr (3, [.int 1, .ref ta, .int zs, .int po, .int fa, .ref da, .ref ra, .ref la, .long we, .long le, .int pk, .int pm, .int co, .ref pa, .int pl, .ref xa, .ref ya, .int mb, .ref ea, .ref wa])), (ea, .inl (cI, 24, .inl ef)), (wa, .inl (cI, 6, .inl wf))] H := hP
      have hD : va_D A [(h0, .inr (3, [.int 1, .ref ta, .int zs, .int po, .int fa, .ref da, .ref ra, .ref la, .long we, .long le, .int pk, .int pm, .int co, .ref pa, .int pl, .ref xa, .ref ya, .int mb, .ref ea, .ref wa])), (ea, .inl (cI, 24, .inl ef)), (wa, .inl (cI, 6, .inl wf))] := hD
      refine lv_iconst (v := 0) hx hb dR_teeth_88 (by decide) ?_
      refine lv_istore (lv' := [(8, .int 0), (7, .int 0), (0, .ref h0), (1, .int m1), (2, .int x), (3, .int y), (4, .int w), (5, .int h), (6, .int stp)]) hx hb dR_teeth_89 hl (by decide) rfl (fun ls hl => ?_)
      refine lv_iconst (v := 0) hx hb dR_teeth_91 (by decide) ?_
      refine lv_istore (lv' := [(9, .int 0), (8, .int 0), (7, .int 0), (0, .ref h0), (1, .int m1), (2, .int x), (3, .int y), (4, .int w), (5, .int h), (6, .int stp)]) hx hb dR_teeth_92 hl (by decide) rfl (fun ls hl => ?_)
      have lp_94 : ∀ (n_94 : Nat) (nn : Int32) (wi : Int32), (xl_t n_94 wi) → gR_teeth ef wf mb m1 x y w h stp = kR_teeth_94b_0 ef wf mb m1 x y w h stp n_94 nn wi → gR_teeth_0 ef wf mb m1 x y w h stp = kR_teeth_94b_1 ef wf mb m1 x y w h stp n_94 nn wi → ∀ (H : Heap) (locs : List Loc), va_P (dC, dI) classes [(h0, .inr (3, [.int 1, .ref ta, .int zs, .int po, .int fa, .ref da, .ref ra, .ref la, .long we, .long le, .int pk, .int pm, .int co, .ref pa, .int pl, .ref xa, .ref ya, .int mb, .ref ea, .ref wa])), (ea, .inl (cI, 24, .inl ef)), (wa, .inl (cI, 6, .inl wf))] H → va_D A [(h0, .inr (3, [.int 1, .ref ta, .int zs, .int po, .int fa, .ref da, .ref ra, .ref la, .long we, .long le, .int pk, .int pm, .int co, .ref pa, .int pl, .ref xa, .ref ya, .int mb, .ref ea, .ref wa])), (ea, .inl (cI, 24, .inl ef)), (wa, .inl (cI, 6, .inl wf))] → va_S A s.heap H locs → ∀ ls : Array Slot, lv_has ls 11 [(8, .int nn), (9, .int wi), (7, .int 0), (0, .ref h0), (1, .int m1), (2, .int x), (3, .int y), (4, .int w), (5, .int h), (6, .int stp)] → W p l e (headSpec [.code yR_teeth bR_teeth 11 (some (.int))] ({ frames := 2, cells := 0, slots := 0, locals := 45 })).room s m ([.ref h0, .int m1, .int x, .int y, .int w, .int h, .int stp] : List Value).toArray below meth c H locs 0 0 (MQ below (xb_W (dC, dI) (fun v9 w9 => v9 = some (.int (gR_teeth ef wf mb m1 x y w h stp)) ∧ w9 = [(h0, .inr (3, [.int (gR_teeth_0 ef wf mb m1 x y w h stp), .ref ta, .int zs, .int po, .int fa, .ref da, .ref ra, .ref la, .long we, .long le, .int pk, .int pm, .int co, .ref pa, .int pl, .ref xa, .ref ya, .int mb, .ref ea, .ref wa])), (ea, .inl (cI, 24, .inl ef)), (wa, .inl (cI, 6, .inl wf))]) A) ([.ref h0, .int m1, .int x, .int y, .int w, .int h, .int stp] : List Value).toArray s 0 0 A) (F0 m 94 ls []) := by
        intro n_94
        induction n_94 with
        | zero =>
          intro nn wi hinv_94
          exact xl_t0 hinv_94
        | succ n_94 ih_94 =>
          intro nn wi hinv_94 hres_94_0 hres_94_1 H locs hP hD hS ls hl
          refine lv_aload_n hx hb dR_teeth_94 rfl (lv_at hl 3 rfl) ?_
          refine va_get (D := (dC, dI)) (ci := 3) (v := .int 1) (C := xR_R) (T := xF_R) (N := 20) hx hb hts xi_R hown hK hP 0 rfl rfl 0 (by decide) (hts _ xk_646) (fun _ h9 => h9) rfl dR_teeth_95 ?_
          refine lv_if_ne (tgt := 167) hx hb dR_teeth_98 (by decide) (fun c_5 => ?_) (fun c_5 => ?_)
          · refine lv_iload hx hb dR_teeth_167 (lv_at hl 0 rfl) ?_
            have e_0 : gR_teeth ef wf mb m1 x y w h stp = nn := hres_94_0.trans (rfl)
            have e_1 : gR_teeth_0 ef wf mb m1 x y w h stp = (1 : Int32) := hres_94_1.trans (rfl)
            have hP9 := hP.sub (ws' := [(h0, .inr (3, [.int 1, .ref ta, .int zs, .int po, .int fa, .ref da, .ref ra, .ref la, .long we, .long le, .int pk, .int pm, .int co, .ref pa, .int pl, .ref xa, .ref ya, .int mb, .ref ea, .ref wa])), (ea, .inl (cI, 24, .inl ef)), (wa, .inl (cI, 6, .inl wf))]) [0, 1, 2] rfl
            have hD9 := hD.sub (ws' := [(h0, .inr (3, [.int 1, .ref ta, .int zs, .int po, .int fa, .ref da, .ref ra, .ref la, .long we, .long le, .int pk, .int pm, .int co, .ref pa, .int pl, .ref xa, .ref ya, .int mb, .ref ea, .ref wa])), (ea, .inl (cI, 24, .inl ef)), (wa, .inl (cI, 6, .inl wf))]) [0, 1, 2] (by decide) rfl
            exact W.iret (v := nn) hx hb hr (fun t ht hW => ⟨_, _, rfl, ⟨by first | rfl | (simp only [e_0, e_1]; try rfl), by first | rfl | (simp only [e_0, e_1]; try rfl)⟩, by rw [ht]; exact hP9, hD9, hS.F ht⟩) hS.2.2 dR_teeth_169
          · exact absurd c_5 (by decide)
      have v_inv : xl_t 201 (0 : Int32) := ⟨0, rfl, by omega, by omega⟩
      have v_0 : gR_teeth ef wf mb m1 x y w h stp = kR_teeth_94b_0 ef wf mb m1 x y w h stp 201 (0) (0) := (if_neg c_1).trans ((if_pos c_2).trans (rfl))
      have v_1 : gR_teeth_0 ef wf mb m1 x y w h stp = kR_teeth_94b_1 ef wf mb m1 x y w h stp 201 (0) (0) := (if_neg c_1).trans ((if_pos c_2).trans (rfl))
      exact lp_94 201 (0) (0) v_inv v_0 v_1 _ _ (hP.sub (ws' := [(h0, .inr (3, [.int 1, .ref ta, .int zs, .int po, .int fa, .ref da, .ref ra, .ref la, .long we, .long le, .int pk, .int pm, .int co, .ref pa, .int pl, .ref xa, .ref ya, .int mb, .ref ea, .ref wa])), (ea, .inl (cI, 24, .inl ef)), (wa, .inl (cI, 6, .inl wf))]) [0, 1, 2] rfl) (hD.sub (ws' := [(h0, .inr (3, [.int 1, .ref ta, .int zs, .int po, .int fa, .ref da, .ref ra, .ref la, .long we, .long le, .int pk, .int pm, .int co, .ref pa, .int pl, .ref xa, .ref ya, .int mb, .ref ea, .ref wa])), (ea, .inl (cI, 24, .inl ef)), (wa, .inl (cI, 6, .inl wf))]) [0, 1, 2] (by decide) rfl) hS ls (lv_sub hl [1, 0, 2, 3, 4, 5, 6, 7, 8, 9] rfl)
  · have c_1 := xb_bi_t.mp c_1
    refine lv_iload_n hx hb dR_teeth_7 rfl (lv_at hl 3 rfl) ?_
    refine xb_rd (W.runS (As := [.int y]) (rest := []) ⟨hx, hb, hml, hown, hts⟩ (cR_isPlace l E y) (cwS 1 hts (xb_gi (List.forall_mem_cons.mpr ⟨xk_819, List.forall_mem_cons.mpr ⟨xk_820, List.forall_mem_cons.mpr ⟨xk_45, List.forall_mem_cons.mpr ⟨xk_821, fun _ h => absurd h List.not_mem_nil⟩⟩⟩⟩)) rfl rfl rfl (by decide +kernel) ⟨Nat.le_of_ble_eq_true rfl, Nat.le_of_ble_eq_true rfl⟩) ⟨fun _ _ _ _ q => q, fun U hU hW => ⟨rfl, xb_atS hAt hS hA0 hU hW, fun k q h => by simp at h⟩⟩ rfl rfl hl.1 rfl (lv_room (Nat.le_of_ble_eq_true rfl)) dR_teeth_8 ⟨Nat.zero_le _, Nat.zero_le _⟩) ?_
    refine lv_if_eq (tgt := 59) hx hb dR_teeth_11 (by decide) (fun c_6 => ?_) (fun c_6 => ?_)
    · have c_6 := xb_bi_f.mp c_6
      refine lv_iconst (v := 0) hx hb dR_teeth_59 (by decide) ?_
      refine lv_istore (lv' := [(7, .int 0), (0, .ref h0), (1, .int m1), (2, .int x), (3, .int y), (4, .int w), (5, .int h), (6, .int stp)]) hx hb dR_teeth_60 hl (by decide) rfl (fun ls hl => ?_)
      refine lv_aload_n hx hb dR_teeth_62 rfl (lv_at hl 1 rfl) ?_
      refine lv_aload_n hx hb dR_teeth_63 rfl (lv_at hl 1 rfl) ?_
      refine lv_iload_n hx hb dR_teeth_64 rfl (lv_at hl 2 rfl) ?_
      refine xb_rd (W.runV (C := "NailRulesModel") (As := [.int m1]) (rest := [.ref h0]) ⟨hx, hb, hml, hown, hts⟩ (cR_noMember l E h0 ([.int th, .ref ta, .int zs, .int po, .int fa, .ref da, .ref ra, .ref la, .long we, .long le, .int pk, .int pm, .int co, .ref pa, .int pl, .ref xa, .ref ya, .int mb, .ref ea, .ref wa]) mb m1 rfl) (cwV 1 hts (xb_gi (List.forall_mem_cons.mpr ⟨xk_828, List.forall_mem_cons.mpr ⟨xk_830, List.forall_mem_cons.mpr ⟨xk_37, List.forall_mem_cons.mpr ⟨xk_45, List.forall_mem_cons.mpr ⟨xk_831, fun _ h => absurd h List.not_mem_nil⟩⟩⟩⟩⟩)) rfl rfl rfl (by decide +kernel) ⟨Nat.le_of_ble_eq_true rfl, Nat.le_of_ble_eq_true rfl⟩) ⟨fun _ _ _ _ q => q, va_recv hK hP (ci := 3) (q0 := 0) rfl rfl, fun U hU hW => ⟨rfl, xb_atS hAt hS hA0 hU hW, by rw [hU]; exact hP.sub (ws' := [(h0, .inr (3, [.int th, .ref ta, .int zs, .int po, .int fa, .ref da, .ref ra, .ref la, .long we, .long le, .int pk, .int pm, .int co, .ref pa, .int pl, .ref xa, .ref ya, .int mb, .ref ea, .ref wa]))]) [0] rfl⟩⟩ rfl rfl hl.1 rfl (lv_room (Nat.le_of_ble_eq_true rfl)) dR_teeth_65 ⟨Nat.zero_le _, Nat.zero_le _⟩) ?_
      refine lv_if_eq (tgt := 75) hx hb dR_teeth_68 (by decide) (fun c_7 => ?_) (fun c_7 => ?_)
      · have c_7 := xb_bi_f.mp c_7
        refine lv_iload hx hb dR_teeth_75 (lv_at hl 0 rfl) ?_
        refine lv_if_eq (tgt := 84) hx hb dR_teeth_77 (by decide) (fun c_8 => ?_) (fun c_8 => ?_)
        · refine lv_iconst (v := 2) hx hb dR_teeth_84 (by decide) ?_
          refine va_put (D := (dC, dI)) (ci := 3) (v := .int 2) (ty := .int) (C := xR_R) (T := xF_R) (N := 20) hx hb hts xi_R xt_R xt_R_ok xn_R hown hK hP hD hS 0 rfl rfl 0 (by decide) (hts _ xk_646) (fun _ h9 => h9) rfl (by decide +kernel) rfl rfl (Nat.le_of_ble_eq_true rfl) dR_teeth_85 (fun H locs hP hD hS => ?_)
          have hP : va_P (dC, dI) classes [(h0, .inr (3, [.int 2, .ref ta, .int zs, .int po, .int fa, .ref da, .ref ra, .ref la, .long we, .long le, .int pk, .int pm, .int co, .ref pa, .int pl, .ref xa, .ref ya, .int mb, .ref ea, .ref wa])), (ea, .inl (cI, 24, .inl ef)), (wa, .inl (cI, 6, .inl wf))] H := hP
          have hD : va_D A [(h0, .inr (3, [.int 2, .ref ta, .int zs, .int po, .int fa, .ref da, .ref ra, .ref la, .long we, .long le, .int pk, .int pm, .int co, .ref pa, .int pl, .ref xa, .ref ya, .int mb, .ref ea, .ref wa])), (ea, .inl (cI, 24, .inl ef)), (wa, .inl (cI, 6, .inl wf))] := hD
          refine lv_iconst (v := 0) hx hb dR_teeth_88 (by decide) ?_
          refine lv_istore (lv' := [(8, .int 0), (7, .int 0), (0, .ref h0), (1, .int m1), (2, .int x), (3, .int y), (4, .int w), (5, .int h), (6, .int stp)]) hx hb dR_teeth_89 hl (by decide) rfl (fun ls hl => ?_)
          refine lv_iconst (v := 0) hx hb dR_teeth_91 (by decide) ?_
          refine lv_istore (lv' := [(9, .int 0), (8, .int 0), (7, .int 0), (0, .ref h0), (1, .int m1), (2, .int x), (3, .int y), (4, .int w), (5, .int h), (6, .int stp)]) hx hb dR_teeth_92 hl (by decide) rfl (fun ls hl => ?_)
          have lp_94 : ∀ (n_94 : Nat) (nn : Int32) (wi : Int32), (xl_t n_94 wi) → gR_teeth ef wf mb m1 x y w h stp = kR_teeth_94c_0 ef wf mb m1 x y w h stp n_94 nn wi → gR_teeth_0 ef wf mb m1 x y w h stp = kR_teeth_94c_1 ef wf mb m1 x y w h stp n_94 nn wi → ∀ (H : Heap) (locs : List Loc), va_P (dC, dI) classes [(h0, .inr (3, [.int 2, .ref ta, .int zs, .int po, .int fa, .ref da, .ref ra, .ref la, .long we, .long le, .int pk, .int pm, .int co, .ref pa, .int pl, .ref xa, .ref ya, .int mb, .ref ea, .ref wa])), (ea, .inl (cI, 24, .inl ef)), (wa, .inl (cI, 6, .inl wf))] H → va_D A [(h0, .inr (3, [.int 2, .ref ta, .int zs, .int po, .int fa, .ref da, .ref ra, .ref la, .long we, .long le, .int pk, .int pm, .int co, .ref pa, .int pl, .ref xa, .ref ya, .int mb, .ref ea, .ref wa])), (ea, .inl (cI, 24, .inl ef)), (wa, .inl (cI, 6, .inl wf))] → va_S A s.heap H locs → ∀ ls : Array Slot, lv_has ls 11 [(8, .int nn), (9, .int wi), (7, .int 0), (0, .ref h0), (1, .int m1), (2, .int x), (3, .int y), (4, .int w), (5, .int h), (6, .int stp)] → W p l e (headSpec [.code yR_teeth bR_teeth 11 (some (.int))] ({ frames := 2, cells := 0, slots := 0, locals := 45 })).room s m ([.ref h0, .int m1, .int x, .int y, .int w, .int h, .int stp] : List Value).toArray below meth c H locs 0 0 (MQ below (xb_W (dC, dI) (fun v9 w9 => v9 = some (.int (gR_teeth ef wf mb m1 x y w h stp)) ∧ w9 = [(h0, .inr (3, [.int (gR_teeth_0 ef wf mb m1 x y w h stp), .ref ta, .int zs, .int po, .int fa, .ref da, .ref ra, .ref la, .long we, .long le, .int pk, .int pm, .int co, .ref pa, .int pl, .ref xa, .ref ya, .int mb, .ref ea, .ref wa])), (ea, .inl (cI, 24, .inl ef)), (wa, .inl (cI, 6, .inl wf))]) A) ([.ref h0, .int m1, .int x, .int y, .int w, .int h, .int stp] : List Value).toArray s 0 0 A) (F0 m 94 ls []) := by
            intro n_94
            induction n_94 with
            | zero =>
              intro nn wi hinv_94
              exact xl_t0 hinv_94
            | succ n_94 ih_94 =>
              intro nn wi hinv_94 hres_94_0 hres_94_1 H locs hP hD hS ls hl
              refine lv_aload_n hx hb dR_teeth_94 rfl (lv_at hl 3 rfl) ?_
              refine va_get (D := (dC, dI)) (ci := 3) (v := .int 2) (C := xR_R) (T := xF_R) (N := 20) hx hb hts xi_R hown hK hP 0 rfl rfl 0 (by decide) (hts _ xk_646) (fun _ h9 => h9) rfl dR_teeth_95 ?_
              refine lv_if_ne (tgt := 167) hx hb dR_teeth_98 (by decide) (fun c_9 => ?_) (fun c_9 => ?_)
              · refine lv_iload hx hb dR_teeth_167 (lv_at hl 0 rfl) ?_
                have e_0 : gR_teeth ef wf mb m1 x y w h stp = nn := hres_94_0.trans (rfl)
                have e_1 : gR_teeth_0 ef wf mb m1 x y w h stp = (2 : Int32) := hres_94_1.trans (rfl)
                have hP9 := hP.sub (ws' := [(h0, .inr (3, [.int 2, .ref ta, .int zs, .int po, .int fa, .ref da, .ref ra, .ref la, .long we, .long le, .int pk, .int pm, .int co, .ref pa, .int pl, .ref xa, .ref ya, .int mb, .ref ea, .ref wa])), (ea, .inl (cI, 24, .inl ef)), (wa, .inl (cI, 6, .inl wf))]) [0, 1, 2] rfl
                have hD9 := hD.sub (ws' := [(h0, .inr (3, [.int 2, .ref ta, .int zs, .int po, .int fa, .ref da, .ref ra, .ref la, .long we, .long le, .int pk, .int pm, .int co, .ref pa, .int pl, .ref xa, .ref ya, .int mb, .ref ea, .ref wa])), (ea, .inl (cI, 24, .inl ef)), (wa, .inl (cI, 6, .inl wf))]) [0, 1, 2] (by decide) rfl
                exact W.iret (v := nn) hx hb hr (fun t ht hW => ⟨_, _, rfl, ⟨by first | rfl | (simp only [e_0, e_1]; try rfl), by first | rfl | (simp only [e_0, e_1]; try rfl)⟩, by rw [ht]; exact hP9, hD9, hS.F ht⟩) hS.2.2 dR_teeth_169
              · exact absurd c_9 (by decide)
          have v_inv : xl_t 201 (0 : Int32) := ⟨0, rfl, by omega, by omega⟩
          have v_0 : gR_teeth ef wf mb m1 x y w h stp = kR_teeth_94c_0 ef wf mb m1 x y w h stp 201 (0) (0) := (if_pos c_1).trans ((if_neg c_6).trans ((if_neg c_7).trans (rfl)))
          have v_1 : gR_teeth_0 ef wf mb m1 x y w h stp = kR_teeth_94c_1 ef wf mb m1 x y w h stp 201 (0) (0) := (if_pos c_1).trans ((if_neg c_6).trans ((if_neg c_7).trans (rfl)))
          exact lp_94 201 (0) (0) v_inv v_0 v_1 _ _ (hP.sub (ws' := [(h0, .inr (3, [.int 2, .ref ta, .int zs, .int po, .int fa, .ref da, .ref ra, .ref la, .long we, .long le, .int pk, .int pm, .int co, .ref pa, .int pl, .ref xa, .ref ya, .int mb, .ref ea, .ref wa])), (ea, .inl (cI, 24, .inl ef)), (wa, .inl (cI, 6, .inl wf))]) [0, 1, 2] rfl) (hD.sub (ws' := [(h0, .inr (3, [.int 2, .ref ta, .int zs, .int po, .int fa, .ref da, .ref ra, .ref la, .long we, .long le, .int pk, .int pm, .int co, .ref pa, .int pl, .ref xa, .ref ya, .int mb, .ref ea, .ref wa])), (ea, .inl (cI, 24, .inl ef)), (wa, .inl (cI, 6, .inl wf))]) [0, 1, 2] (by decide) rfl) hS ls (lv_sub hl [1, 0, 2, 3, 4, 5, 6, 7, 8, 9] rfl)
        · exact absurd c_8 (by decide)
      · have c_7 := xb_bi_t.mp c_7
        refine lv_iconst (v := 1) hx hb dR_teeth_71 (by decide) ?_
        refine lv_goto (tgt := 85) hx hb dR_teeth_72 (by decide) ?_
        refine va_put (D := (dC, dI)) (ci := 3) (v := .int 1) (ty := .int) (C := xR_R) (T := xF_R) (N := 20) hx hb hts xi_R xt_R xt_R_ok xn_R hown hK hP hD hS 0 rfl rfl 0 (by decide) (hts _ xk_646) (fun _ h9 => h9) rfl (by decide +kernel) rfl rfl (Nat.le_of_ble_eq_true rfl) dR_teeth_85 (fun H locs hP hD hS => ?_)
        have hP : va_P (dC, dI) classes [(h0, .inr (3, [.int 1, .ref ta, .int zs, .int po, .int fa, .ref da, .ref ra, .ref la, .long we, .long le, .int pk, .int pm, .int co, .ref pa, .int pl, .ref xa, .ref ya, .int mb, .ref ea, .ref wa])), (ea, .inl (cI, 24, .inl ef)), (wa, .inl (cI, 6, .inl wf))] H := hP
        have hD : va_D A [(h0, .inr (3, [.int 1, .ref ta, .int zs, .int po, .int fa, .ref da, .ref ra, .ref la, .long we, .long le, .int pk, .int pm, .int co, .ref pa, .int pl, .ref xa, .ref ya, .int mb, .ref ea, .ref wa])), (ea, .inl (cI, 24, .inl ef)), (wa, .inl (cI, 6, .inl wf))] := hD
        refine lv_iconst (v := 0) hx hb dR_teeth_88 (by decide) ?_
        refine lv_istore (lv' := [(8, .int 0), (7, .int 0), (0, .ref h0), (1, .int m1), (2, .int x), (3, .int y), (4, .int w), (5, .int h), (6, .int stp)]) hx hb dR_teeth_89 hl (by decide) rfl (fun ls hl => ?_)
        refine lv_iconst (v := 0) hx hb dR_teeth_91 (by decide) ?_
        refine lv_istore (lv' := [(9, .int 0), (8, .int 0), (7, .int 0), (0, .ref h0), (1, .int m1), (2, .int x), (3, .int y), (4, .int w), (5, .int h), (6, .int stp)]) hx hb dR_teeth_92 hl (by decide) rfl (fun ls hl => ?_)
        have lp_94 : ∀ (n_94 : Nat) (nn : Int32) (wi : Int32), (xl_t n_94 wi) → gR_teeth ef wf mb m1 x y w h stp = kR_teeth_94d_0 ef wf mb m1 x y w h stp n_94 nn wi → gR_teeth_0 ef wf mb m1 x y w h stp = kR_teeth_94d_1 ef wf mb m1 x y w h stp n_94 nn wi → ∀ (H : Heap) (locs : List Loc), va_P (dC, dI) classes [(h0, .inr (3, [.int 1, .ref ta, .int zs, .int po, .int fa, .ref da, .ref ra, .ref la, .long we, .long le, .int pk, .int pm, .int co, .ref pa, .int pl, .ref xa, .ref ya, .int mb, .ref ea, .ref wa])), (ea, .inl (cI, 24, .inl ef)), (wa, .inl (cI, 6, .inl wf))] H → va_D A [(h0, .inr (3, [.int 1, .ref ta, .int zs, .int po, .int fa, .ref da, .ref ra, .ref la, .long we, .long le, .int pk, .int pm, .int co, .ref pa, .int pl, .ref xa, .ref ya, .int mb, .ref ea, .ref wa])), (ea, .inl (cI, 24, .inl ef)), (wa, .inl (cI, 6, .inl wf))] → va_S A s.heap H locs → ∀ ls : Array Slot, lv_has ls 11 [(8, .int nn), (9, .int wi), (7, .int 0), (0, .ref h0), (1, .int m1), (2, .int x), (3, .int y), (4, .int w), (5, .int h), (6, .int stp)] → W p l e (headSpec [.code yR_teeth bR_teeth 11 (some (.int))] ({ frames := 2, cells := 0, slots := 0, locals := 45 })).room s m ([.ref h0, .int m1, .int x, .int y, .int w, .int h, .int stp] : List Value).toArray below meth c H locs 0 0 (MQ below (xb_W (dC, dI) (fun v9 w9 => v9 = some (.int (gR_teeth ef wf mb m1 x y w h stp)) ∧ w9 = [(h0, .inr (3, [.int (gR_teeth_0 ef wf mb m1 x y w h stp), .ref ta, .int zs, .int po, .int fa, .ref da, .ref ra, .ref la, .long we, .long le, .int pk, .int pm, .int co, .ref pa, .int pl, .ref xa, .ref ya, .int mb, .ref ea, .ref wa])), (ea, .inl (cI, 24, .inl ef)), (wa, .inl (cI, 6, .inl wf))]) A) ([.ref h0, .int m1, .int x, .int y, .int w, .int h, .int stp] : List Value).toArray s 0 0 A) (F0 m 94 ls []) := by
          intro n_94
          induction n_94 with
          | zero =>
            intro nn wi hinv_94
            exact xl_t0 hinv_94
          | succ n_94 ih_94 =>
            intro nn wi hinv_94 hres_94_0 hres_94_1 H locs hP hD hS ls hl
            refine lv_aload_n hx hb dR_teeth_94 rfl (lv_at hl 3 rfl) ?_
            refine va_get (D := (dC, dI)) (ci := 3) (v := .int 1) (C := xR_R) (T := xF_R) (N := 20) hx hb hts xi_R hown hK hP 0 rfl rfl 0 (by decide) (hts _ xk_646) (fun _ h9 => h9) rfl dR_teeth_95 ?_
            refine lv_if_ne (tgt := 167) hx hb dR_teeth_98 (by decide) (fun c_10 => ?_) (fun c_10 => ?_)
            · refine lv_iload hx hb dR_teeth_167 (lv_at hl 0 rfl) ?_
              have e_0 : gR_teeth ef wf mb m1 x y w h stp = nn := hres_94_0.trans (rfl)
              have e_1 : gR_teeth_0 ef wf mb m1 x y w h stp = (1 : Int32) := hres_94_1.trans (rfl)
              have hP9 := hP.sub (ws' := [(h0, .inr (3, [.int 1, .ref ta, .int zs, .int po, .int fa, .ref da, .ref ra, .ref la, .long we, .long le, .int pk, .int pm, .int co, .ref pa, .int pl, .ref xa, .ref ya, .int mb, .ref ea, .ref wa])), (ea, .inl (cI, 24, .inl ef)), (wa, .inl (cI, 6, .inl wf))]) [0, 1, 2] rfl
              have hD9 := hD.sub (ws' := [(h0, .inr (3, [.int 1, .ref ta, .int zs, .int po, .int fa, .ref da, .ref ra, .ref la, .long we, .long le, .int pk, .int pm, .int co, .ref pa, .int pl, .ref xa, .ref ya, .int mb, .ref ea, .ref wa])), (ea, .inl (cI, 24, .inl ef)), (wa, .inl (cI, 6, .inl wf))]) [0, 1, 2] (by decide) rfl
              exact W.iret (v := nn) hx hb hr (fun t ht hW => ⟨_, _, rfl, ⟨by first | rfl | (simp only [e_0, e_1]; try rfl), by first | rfl | (simp only [e_0, e_1]; try rfl)⟩, by rw [ht]; exact hP9, hD9, hS.F ht⟩) hS.2.2 dR_teeth_169
            · exact absurd c_10 (by decide)
        have v_inv : xl_t 201 (0 : Int32) := ⟨0, rfl, by omega, by omega⟩
        have v_0 : gR_teeth ef wf mb m1 x y w h stp = kR_teeth_94d_0 ef wf mb m1 x y w h stp 201 (0) (0) := (if_pos c_1).trans ((if_neg c_6).trans ((if_pos c_7).trans (rfl)))
        have v_1 : gR_teeth_0 ef wf mb m1 x y w h stp = kR_teeth_94d_1 ef wf mb m1 x y w h stp 201 (0) (0) := (if_pos c_1).trans ((if_neg c_6).trans ((if_pos c_7).trans (rfl)))
        exact lp_94 201 (0) (0) v_inv v_0 v_1 _ _ (hP.sub (ws' := [(h0, .inr (3, [.int 1, .ref ta, .int zs, .int po, .int fa, .ref da, .ref ra, .ref la, .long we, .long le, .int pk, .int pm, .int co, .ref pa, .int pl, .ref xa, .ref ya, .int mb, .ref ea, .ref wa])), (ea, .inl (cI, 24, .inl ef)), (wa, .inl (cI, 6, .inl wf))]) [0, 1, 2] rfl) (hD.sub (ws' := [(h0, .inr (3, [.int 1, .ref ta, .int zs, .int po, .int fa, .ref da, .ref ra, .ref la, .long we, .long le, .int pk, .int pm, .int co, .ref pa, .int pl, .ref xa, .ref ya, .int mb, .ref ea, .ref wa])), (ea, .inl (cI, 24, .inl ef)), (wa, .inl (cI, 6, .inl wf))]) [0, 1, 2] (by decide) rfl) hS ls (lv_sub hl [1, 0, 2, 3, 4, 5, 6, 7, 8, 9] rfl)
    · have c_6 := xb_bi_t.mp c_6
      refine lv_iload hx hb dR_teeth_14 (lv_at hl 4 rfl) ?_
      refine lv_i2l hx hb dR_teeth_16 rfl ?_
      refine lv_lconst (v := 0) hx hb dR_teeth_17 (by decide) ?_
      refine lv_ldc2 (v := 1000) hx hb hown (hts _ xk_765) dR_teeth_18 ?_
      refine xb_rd (W.runS (As := [.long w.toInt64, .long 0, .long 1000]) (rest := []) ⟨hx, hb, hml, hown, hts⟩ (cR_isIn l E w.toInt64 0 1000) (cwS 3 hts (xb_gi (List.forall_mem_cons.mpr ⟨xk_754, List.forall_mem_cons.mpr ⟨xk_755, List.forall_mem_cons.mpr ⟨xk_45, List.forall_mem_cons.mpr ⟨xk_756, fun _ h => absurd h List.not_mem_nil⟩⟩⟩⟩)) rfl rfl rfl (by decide +kernel) ⟨Nat.le_of_ble_eq_true rfl, Nat.le_of_ble_eq_true rfl⟩) ⟨fun _ _ _ _ q => q, fun U hU hW => ⟨rfl, xb_atS hAt hS hA0 hU hW, fun k q h => by simp at h⟩⟩ rfl rfl hl.1 rfl (lv_room (Nat.le_of_ble_eq_true rfl)) dR_teeth_21 ⟨Nat.zero_le _, Nat.zero_le _⟩) ?_
      refine lv_if_eq (tgt := 59) hx hb dR_teeth_24 (by decide) (fun c_11 => ?_) (fun c_11 => ?_)
      · have c_11 := xb_bi_f.mp c_11
        refine lv_iconst (v := 0) hx hb dR_teeth_59 (by decide) ?_
        refine lv_istore (lv' := [(7, .int 0), (0, .ref h0), (1, .int m1), (2, .int x), (3, .int y), (4, .int w), (5, .int h), (6, .int stp)]) hx hb dR_teeth_60 hl (by decide) rfl (fun ls hl => ?_)
        refine lv_aload_n hx hb dR_teeth_62 rfl (lv_at hl 1 rfl) ?_
        refine lv_aload_n hx hb dR_teeth_63 rfl (lv_at hl 1 rfl) ?_
        refine lv_iload_n hx hb dR_teeth_64 rfl (lv_at hl 2 rfl) ?_
        refine xb_rd (W.runV (C := "NailRulesModel") (As := [.int m1]) (rest := [.ref h0]) ⟨hx, hb, hml, hown, hts⟩ (cR_noMember l E h0 ([.int th, .ref ta, .int zs, .int po, .int fa, .ref da, .ref ra, .ref la, .long we, .long le, .int pk, .int pm, .int co, .ref pa, .int pl, .ref xa, .ref ya, .int mb, .ref ea, .ref wa]) mb m1 rfl) (cwV 1 hts (xb_gi (List.forall_mem_cons.mpr ⟨xk_828, List.forall_mem_cons.mpr ⟨xk_830, List.forall_mem_cons.mpr ⟨xk_37, List.forall_mem_cons.mpr ⟨xk_45, List.forall_mem_cons.mpr ⟨xk_831, fun _ h => absurd h List.not_mem_nil⟩⟩⟩⟩⟩)) rfl rfl rfl (by decide +kernel) ⟨Nat.le_of_ble_eq_true rfl, Nat.le_of_ble_eq_true rfl⟩) ⟨fun _ _ _ _ q => q, va_recv hK hP (ci := 3) (q0 := 0) rfl rfl, fun U hU hW => ⟨rfl, xb_atS hAt hS hA0 hU hW, by rw [hU]; exact hP.sub (ws' := [(h0, .inr (3, [.int th, .ref ta, .int zs, .int po, .int fa, .ref da, .ref ra, .ref la, .long we, .long le, .int pk, .int pm, .int co, .ref pa, .int pl, .ref xa, .ref ya, .int mb, .ref ea, .ref wa]))]) [0] rfl⟩⟩ rfl rfl hl.1 rfl (lv_room (Nat.le_of_ble_eq_true rfl)) dR_teeth_65 ⟨Nat.zero_le _, Nat.zero_le _⟩) ?_
        refine lv_if_eq (tgt := 75) hx hb dR_teeth_68 (by decide) (fun c_12 => ?_) (fun c_12 => ?_)
        · have c_12 := xb_bi_f.mp c_12
          refine lv_iload hx hb dR_teeth_75 (lv_at hl 0 rfl) ?_
          refine lv_if_eq (tgt := 84) hx hb dR_teeth_77 (by decide) (fun c_13 => ?_) (fun c_13 => ?_)
          · refine lv_iconst (v := 2) hx hb dR_teeth_84 (by decide) ?_
            refine va_put (D := (dC, dI)) (ci := 3) (v := .int 2) (ty := .int) (C := xR_R) (T := xF_R) (N := 20) hx hb hts xi_R xt_R xt_R_ok xn_R hown hK hP hD hS 0 rfl rfl 0 (by decide) (hts _ xk_646) (fun _ h9 => h9) rfl (by decide +kernel) rfl rfl (Nat.le_of_ble_eq_true rfl) dR_teeth_85 (fun H locs hP hD hS => ?_)
            have hP : va_P (dC, dI) classes [(h0, .inr (3, [.int 2, .ref ta, .int zs, .int po, .int fa, .ref da, .ref ra, .ref la, .long we, .long le, .int pk, .int pm, .int co, .ref pa, .int pl, .ref xa, .ref ya, .int mb, .ref ea, .ref wa])), (ea, .inl (cI, 24, .inl ef)), (wa, .inl (cI, 6, .inl wf))] H := hP
            have hD : va_D A [(h0, .inr (3, [.int 2, .ref ta, .int zs, .int po, .int fa, .ref da, .ref ra, .ref la, .long we, .long le, .int pk, .int pm, .int co, .ref pa, .int pl, .ref xa, .ref ya, .int mb, .ref ea, .ref wa])), (ea, .inl (cI, 24, .inl ef)), (wa, .inl (cI, 6, .inl wf))] := hD
            refine lv_iconst (v := 0) hx hb dR_teeth_88 (by decide) ?_
            refine lv_istore (lv' := [(8, .int 0), (7, .int 0), (0, .ref h0), (1, .int m1), (2, .int x), (3, .int y), (4, .int w), (5, .int h), (6, .int stp)]) hx hb dR_teeth_89 hl (by decide) rfl (fun ls hl => ?_)
            refine lv_iconst (v := 0) hx hb dR_teeth_91 (by decide) ?_
            refine lv_istore (lv' := [(9, .int 0), (8, .int 0), (7, .int 0), (0, .ref h0), (1, .int m1), (2, .int x), (3, .int y), (4, .int w), (5, .int h), (6, .int stp)]) hx hb dR_teeth_92 hl (by decide) rfl (fun ls hl => ?_)
            have lp_94 : ∀ (n_94 : Nat) (nn : Int32) (wi : Int32), (xl_t n_94 wi) → gR_teeth ef wf mb m1 x y w h stp = kR_teeth_94e_0 ef wf mb m1 x y w h stp n_94 nn wi → gR_teeth_0 ef wf mb m1 x y w h stp = kR_teeth_94e_1 ef wf mb m1 x y w h stp n_94 nn wi → ∀ (H : Heap) (locs : List Loc), va_P (dC, dI) classes [(h0, .inr (3, [.int 2, .ref ta, .int zs, .int po, .int fa, .ref da, .ref ra, .ref la, .long we, .long le, .int pk, .int pm, .int co, .ref pa, .int pl, .ref xa, .ref ya, .int mb, .ref ea, .ref wa])), (ea, .inl (cI, 24, .inl ef)), (wa, .inl (cI, 6, .inl wf))] H → va_D A [(h0, .inr (3, [.int 2, .ref ta, .int zs, .int po, .int fa, .ref da, .ref ra, .ref la, .long we, .long le, .int pk, .int pm, .int co, .ref pa, .int pl, .ref xa, .ref ya, .int mb, .ref ea, .ref wa])), (ea, .inl (cI, 24, .inl ef)), (wa, .inl (cI, 6, .inl wf))] → va_S A s.heap H locs → ∀ ls : Array Slot, lv_has ls 11 [(8, .int nn), (9, .int wi), (7, .int 0), (0, .ref h0), (1, .int m1), (2, .int x), (3, .int y), (4, .int w), (5, .int h), (6, .int stp)] → W p l e (headSpec [.code yR_teeth bR_teeth 11 (some (.int))] ({ frames := 2, cells := 0, slots := 0, locals := 45 })).room s m ([.ref h0, .int m1, .int x, .int y, .int w, .int h, .int stp] : List Value).toArray below meth c H locs 0 0 (MQ below (xb_W (dC, dI) (fun v9 w9 => v9 = some (.int (gR_teeth ef wf mb m1 x y w h stp)) ∧ w9 = [(h0, .inr (3, [.int (gR_teeth_0 ef wf mb m1 x y w h stp), .ref ta, .int zs, .int po, .int fa, .ref da, .ref ra, .ref la, .long we, .long le, .int pk, .int pm, .int co, .ref pa, .int pl, .ref xa, .ref ya, .int mb, .ref ea, .ref wa])), (ea, .inl (cI, 24, .inl ef)), (wa, .inl (cI, 6, .inl wf))]) A) ([.ref h0, .int m1, .int x, .int y, .int w, .int h, .int stp] : List Value).toArray s 0 0 A) (F0 m 94 ls []) := by
              intro n_94
              induction n_94 with
              | zero =>
                intro nn wi hinv_94
                exact xl_t0 hinv_94
              | succ n_94 ih_94 =>
                intro nn wi hinv_94 hres_94_0 hres_94_1 H locs hP hD hS ls hl
                refine lv_aload_n hx hb dR_teeth_94 rfl (lv_at hl 3 rfl) ?_
                refine va_get (D := (dC, dI)) (ci := 3) (v := .int 2) (C := xR_R) (T := xF_R) (N := 20) hx hb hts xi_R hown hK hP 0 rfl rfl 0 (by decide) (hts _ xk_646) (fun _ h9 => h9) rfl dR_teeth_95 ?_
                refine lv_if_ne (tgt := 167) hx hb dR_teeth_98 (by decide) (fun c_14 => ?_) (fun c_14 => ?_)
                · refine lv_iload hx hb dR_teeth_167 (lv_at hl 0 rfl) ?_
                  have e_0 : gR_teeth ef wf mb m1 x y w h stp = nn := hres_94_0.trans (rfl)
                  have e_1 : gR_teeth_0 ef wf mb m1 x y w h stp = (2 : Int32) := hres_94_1.trans (rfl)
                  have hP9 := hP.sub (ws' := [(h0, .inr (3, [.int 2, .ref ta, .int zs, .int po, .int fa, .ref da, .ref ra, .ref la, .long we, .long le, .int pk, .int pm, .int co, .ref pa, .int pl, .ref xa, .ref ya, .int mb, .ref ea, .ref wa])), (ea, .inl (cI, 24, .inl ef)), (wa, .inl (cI, 6, .inl wf))]) [0, 1, 2] rfl
                  have hD9 := hD.sub (ws' := [(h0, .inr (3, [.int 2, .ref ta, .int zs, .int po, .int fa, .ref da, .ref ra, .ref la, .long we, .long le, .int pk, .int pm, .int co, .ref pa, .int pl, .ref xa, .ref ya, .int mb, .ref ea, .ref wa])), (ea, .inl (cI, 24, .inl ef)), (wa, .inl (cI, 6, .inl wf))]) [0, 1, 2] (by decide) rfl
                  exact W.iret (v := nn) hx hb hr (fun t ht hW => ⟨_, _, rfl, ⟨by first | rfl | (simp only [e_0, e_1]; try rfl), by first | rfl | (simp only [e_0, e_1]; try rfl)⟩, by rw [ht]; exact hP9, hD9, hS.F ht⟩) hS.2.2 dR_teeth_169
                · exact absurd c_14 (by decide)
            have v_inv : xl_t 201 (0 : Int32) := ⟨0, rfl, by omega, by omega⟩
            have v_0 : gR_teeth ef wf mb m1 x y w h stp = kR_teeth_94e_0 ef wf mb m1 x y w h stp 201 (0) (0) := (if_pos c_1).trans ((if_pos c_6).trans ((if_neg c_11).trans ((if_neg c_12).trans (rfl))))
            have v_1 : gR_teeth_0 ef wf mb m1 x y w h stp = kR_teeth_94e_1 ef wf mb m1 x y w h stp 201 (0) (0) := (if_pos c_1).trans ((if_pos c_6).trans ((if_neg c_11).trans ((if_neg c_12).trans (rfl))))
            exact lp_94 201 (0) (0) v_inv v_0 v_1 _ _ (hP.sub (ws' := [(h0, .inr (3, [.int 2, .ref ta, .int zs, .int po, .int fa, .ref da, .ref ra, .ref la, .long we, .long le, .int pk, .int pm, .int co, .ref pa, .int pl, .ref xa, .ref ya, .int mb, .ref ea, .ref wa])), (ea, .inl (cI, 24, .inl ef)), (wa, .inl (cI, 6, .inl wf))]) [0, 1, 2] rfl) (hD.sub (ws' := [(h0, .inr (3, [.int 2, .ref ta, .int zs, .int po, .int fa, .ref da, .ref ra, .ref la, .long we, .long le, .int pk, .int pm, .int co, .ref pa, .int pl, .ref xa, .ref ya, .int mb, .ref ea, .ref wa])), (ea, .inl (cI, 24, .inl ef)), (wa, .inl (cI, 6, .inl wf))]) [0, 1, 2] (by decide) rfl) hS ls (lv_sub hl [1, 0, 2, 3, 4, 5, 6, 7, 8, 9] rfl)
          · exact absurd c_13 (by decide)
        · have c_12 := xb_bi_t.mp c_12
          refine lv_iconst (v := 1) hx hb dR_teeth_71 (by decide) ?_
          refine lv_goto (tgt := 85) hx hb dR_teeth_72 (by decide) ?_
          refine va_put (D := (dC, dI)) (ci := 3) (v := .int 1) (ty := .int) (C := xR_R) (T := xF_R) (N := 20) hx hb hts xi_R xt_R xt_R_ok xn_R hown hK hP hD hS 0 rfl rfl 0 (by decide) (hts _ xk_646) (fun _ h9 => h9) rfl (by decide +kernel) rfl rfl (Nat.le_of_ble_eq_true rfl) dR_teeth_85 (fun H locs hP hD hS => ?_)
          have hP : va_P (dC, dI) classes [(h0, .inr (3, [.int 1, .ref ta, .int zs, .int po, .int fa, .ref da, .ref ra, .ref la, .long we, .long le, .int pk, .int pm, .int co, .ref pa, .int pl, .ref xa, .ref ya, .int mb, .ref ea, .ref wa])), (ea, .inl (cI, 24, .inl ef)), (wa, .inl (cI, 6, .inl wf))] H := hP
          have hD : va_D A [(h0, .inr (3, [.int 1, .ref ta, .int zs, .int po, .int fa, .ref da, .ref ra, .ref la, .long we, .long le, .int pk, .int pm, .int co, .ref pa, .int pl, .ref xa, .ref ya, .int mb, .ref ea, .ref wa])), (ea, .inl (cI, 24, .inl ef)), (wa, .inl (cI, 6, .inl wf))] := hD
          refine lv_iconst (v := 0) hx hb dR_teeth_88 (by decide) ?_
          refine lv_istore (lv' := [(8, .int 0), (7, .int 0), (0, .ref h0), (1, .int m1), (2, .int x), (3, .int y), (4, .int w), (5, .int h), (6, .int stp)]) hx hb dR_teeth_89 hl (by decide) rfl (fun ls hl => ?_)
          refine lv_iconst (v := 0) hx hb dR_teeth_91 (by decide) ?_
          refine lv_istore (lv' := [(9, .int 0), (8, .int 0), (7, .int 0), (0, .ref h0), (1, .int m1), (2, .int x), (3, .int y), (4, .int w), (5, .int h), (6, .int stp)]) hx hb dR_teeth_92 hl (by decide) rfl (fun ls hl => ?_)
          have lp_94 : ∀ (n_94 : Nat) (nn : Int32) (wi : Int32), (xl_t n_94 wi) → gR_teeth ef wf mb m1 x y w h stp = kR_teeth_94f_0 ef wf mb m1 x y w h stp n_94 nn wi → gR_teeth_0 ef wf mb m1 x y w h stp = kR_teeth_94f_1 ef wf mb m1 x y w h stp n_94 nn wi → ∀ (H : Heap) (locs : List Loc), va_P (dC, dI) classes [(h0, .inr (3, [.int 1, .ref ta, .int zs, .int po, .int fa, .ref da, .ref ra, .ref la, .long we, .long le, .int pk, .int pm, .int co, .ref pa, .int pl, .ref xa, .ref ya, .int mb, .ref ea, .ref wa])), (ea, .inl (cI, 24, .inl ef)), (wa, .inl (cI, 6, .inl wf))] H → va_D A [(h0, .inr (3, [.int 1, .ref ta, .int zs, .int po, .int fa, .ref da, .ref ra, .ref la, .long we, .long le, .int pk, .int pm, .int co, .ref pa, .int pl, .ref xa, .ref ya, .int mb, .ref ea, .ref wa])), (ea, .inl (cI, 24, .inl ef)), (wa, .inl (cI, 6, .inl wf))] → va_S A s.heap H locs → ∀ ls : Array Slot, lv_has ls 11 [(8, .int nn), (9, .int wi), (7, .int 0), (0, .ref h0), (1, .int m1), (2, .int x), (3, .int y), (4, .int w), (5, .int h), (6, .int stp)] → W p l e (headSpec [.code yR_teeth bR_teeth 11 (some (.int))] ({ frames := 2, cells := 0, slots := 0, locals := 45 })).room s m ([.ref h0, .int m1, .int x, .int y, .int w, .int h, .int stp] : List Value).toArray below meth c H locs 0 0 (MQ below (xb_W (dC, dI) (fun v9 w9 => v9 = some (.int (gR_teeth ef wf mb m1 x y w h stp)) ∧ w9 = [(h0, .inr (3, [.int (gR_teeth_0 ef wf mb m1 x y w h stp), .ref ta, .int zs, .int po, .int fa, .ref da, .ref ra, .ref la, .long we, .long le, .int pk, .int pm, .int co, .ref pa, .int pl, .ref xa, .ref ya, .int mb, .ref ea, .ref wa])), (ea, .inl (cI, 24, .inl ef)), (wa, .inl (cI, 6, .inl wf))]) A) ([.ref h0, .int m1, .int x, .int y, .int w, .int h, .int stp] : List Value).toArray s 0 0 A) (F0 m 94 ls []) := by
            intro n_94
            induction n_94 with
            | zero =>
              intro nn wi hinv_94
              exact xl_t0 hinv_94
            | succ n_94 ih_94 =>
              intro nn wi hinv_94 hres_94_0 hres_94_1 H locs hP hD hS ls hl
              refine lv_aload_n hx hb dR_teeth_94 rfl (lv_at hl 3 rfl) ?_
              refine va_get (D := (dC, dI)) (ci := 3) (v := .int 1) (C := xR_R) (T := xF_R) (N := 20) hx hb hts xi_R hown hK hP 0 rfl rfl 0 (by decide) (hts _ xk_646) (fun _ h9 => h9) rfl dR_teeth_95 ?_
              refine lv_if_ne (tgt := 167) hx hb dR_teeth_98 (by decide) (fun c_15 => ?_) (fun c_15 => ?_)
              · refine lv_iload hx hb dR_teeth_167 (lv_at hl 0 rfl) ?_
                have e_0 : gR_teeth ef wf mb m1 x y w h stp = nn := hres_94_0.trans (rfl)
                have e_1 : gR_teeth_0 ef wf mb m1 x y w h stp = (1 : Int32) := hres_94_1.trans (rfl)
                have hP9 := hP.sub (ws' := [(h0, .inr (3, [.int 1, .ref ta, .int zs, .int po, .int fa, .ref da, .ref ra, .ref la, .long we, .long le, .int pk, .int pm, .int co, .ref pa, .int pl, .ref xa, .ref ya, .int mb, .ref ea, .ref wa])), (ea, .inl (cI, 24, .inl ef)), (wa, .inl (cI, 6, .inl wf))]) [0, 1, 2] rfl
                have hD9 := hD.sub (ws' := [(h0, .inr (3, [.int 1, .ref ta, .int zs, .int po, .int fa, .ref da, .ref ra, .ref la, .long we, .long le, .int pk, .int pm, .int co, .ref pa, .int pl, .ref xa, .ref ya, .int mb, .ref ea, .ref wa])), (ea, .inl (cI, 24, .inl ef)), (wa, .inl (cI, 6, .inl wf))]) [0, 1, 2] (by decide) rfl
                exact W.iret (v := nn) hx hb hr (fun t ht hW => ⟨_, _, rfl, ⟨by first | rfl | (simp only [e_0, e_1]; try rfl), by first | rfl | (simp only [e_0, e_1]; try rfl)⟩, by rw [ht]; exact hP9, hD9, hS.F ht⟩) hS.2.2 dR_teeth_169
              · exact absurd c_15 (by decide)
          have v_inv : xl_t 201 (0 : Int32) := ⟨0, rfl, by omega, by omega⟩
          have v_0 : gR_teeth ef wf mb m1 x y w h stp = kR_teeth_94f_0 ef wf mb m1 x y w h stp 201 (0) (0) := (if_pos c_1).trans ((if_pos c_6).trans ((if_neg c_11).trans ((if_pos c_12).trans (rfl))))
          have v_1 : gR_teeth_0 ef wf mb m1 x y w h stp = kR_teeth_94f_1 ef wf mb m1 x y w h stp 201 (0) (0) := (if_pos c_1).trans ((if_pos c_6).trans ((if_neg c_11).trans ((if_pos c_12).trans (rfl))))
          exact lp_94 201 (0) (0) v_inv v_0 v_1 _ _ (hP.sub (ws' := [(h0, .inr (3, [.int 1, .ref ta, .int zs, .int po, .int fa, .ref da, .ref ra, .ref la, .long we, .long le, .int pk, .int pm, .int co, .ref pa, .int pl, .ref xa, .ref ya, .int mb, .ref ea, .ref wa])), (ea, .inl (cI, 24, .inl ef)), (wa, .inl (cI, 6, .inl wf))]) [0, 1, 2] rfl) (hD.sub (ws' := [(h0, .inr (3, [.int 1, .ref ta, .int zs, .int po, .int fa, .ref da, .ref ra, .ref la, .long we, .long le, .int pk, .int pm, .int co, .ref pa, .int pl, .ref xa, .ref ya, .int mb, .ref ea, .ref wa])), (ea, .inl (cI, 24, .inl ef)), (wa, .inl (cI, 6, .inl wf))]) [0, 1, 2] (by decide) rfl) hS ls (lv_sub hl [1, 0, 2, 3, 4, 5, 6, 7, 8, 9] rfl)
      · have c_11 := xb_bi_t.mp c_11
        refine lv_iload hx hb dR_teeth_27 (lv_at hl 5 rfl) ?_
        refine lv_i2l hx hb dR_teeth_29 rfl ?_
        refine lv_lconst (v := 0) hx hb dR_teeth_30 (by decide) ?_
        refine lv_ldc2 (v := 1000) hx hb hown (hts _ xk_765) dR_teeth_31 ?_
        refine xb_rd (W.runS (As := [.long h.toInt64, .long 0, .long 1000]) (rest := []) ⟨hx, hb, hml, hown, hts⟩ (cR_isIn l E h.toInt64 0 1000) (cwS 3 hts (xb_gi (List.forall_mem_cons.mpr ⟨xk_754, List.forall_mem_cons.mpr ⟨xk_755, List.forall_mem_cons.mpr ⟨xk_45, List.forall_mem_cons.mpr ⟨xk_756, fun _ h => absurd h List.not_mem_nil⟩⟩⟩⟩)) rfl rfl rfl (by decide +kernel) ⟨Nat.le_of_ble_eq_true rfl, Nat.le_of_ble_eq_true rfl⟩) ⟨fun _ _ _ _ q => q, fun U hU hW => ⟨rfl, xb_atS hAt hS hA0 hU hW, fun k q h => by simp at h⟩⟩ rfl rfl hl.1 rfl (lv_room (Nat.le_of_ble_eq_true rfl)) dR_teeth_34 ⟨Nat.zero_le _, Nat.zero_le _⟩) ?_
        refine lv_if_eq (tgt := 59) hx hb dR_teeth_37 (by decide) (fun c_16 => ?_) (fun c_16 => ?_)
        · have c_16 := xb_bi_f.mp c_16
          refine lv_iconst (v := 0) hx hb dR_teeth_59 (by decide) ?_
          refine lv_istore (lv' := [(7, .int 0), (0, .ref h0), (1, .int m1), (2, .int x), (3, .int y), (4, .int w), (5, .int h), (6, .int stp)]) hx hb dR_teeth_60 hl (by decide) rfl (fun ls hl => ?_)
          refine lv_aload_n hx hb dR_teeth_62 rfl (lv_at hl 1 rfl) ?_
          refine lv_aload_n hx hb dR_teeth_63 rfl (lv_at hl 1 rfl) ?_
          refine lv_iload_n hx hb dR_teeth_64 rfl (lv_at hl 2 rfl) ?_
          refine xb_rd (W.runV (C := "NailRulesModel") (As := [.int m1]) (rest := [.ref h0]) ⟨hx, hb, hml, hown, hts⟩ (cR_noMember l E h0 ([.int th, .ref ta, .int zs, .int po, .int fa, .ref da, .ref ra, .ref la, .long we, .long le, .int pk, .int pm, .int co, .ref pa, .int pl, .ref xa, .ref ya, .int mb, .ref ea, .ref wa]) mb m1 rfl) (cwV 1 hts (xb_gi (List.forall_mem_cons.mpr ⟨xk_828, List.forall_mem_cons.mpr ⟨xk_830, List.forall_mem_cons.mpr ⟨xk_37, List.forall_mem_cons.mpr ⟨xk_45, List.forall_mem_cons.mpr ⟨xk_831, fun _ h => absurd h List.not_mem_nil⟩⟩⟩⟩⟩)) rfl rfl rfl (by decide +kernel) ⟨Nat.le_of_ble_eq_true rfl, Nat.le_of_ble_eq_true rfl⟩) ⟨fun _ _ _ _ q => q, va_recv hK hP (ci := 3) (q0 := 0) rfl rfl, fun U hU hW => ⟨rfl, xb_atS hAt hS hA0 hU hW, by rw [hU]; exact hP.sub (ws' := [(h0, .inr (3, [.int th, .ref ta, .int zs, .int po, .int fa, .ref da, .ref ra, .ref la, .long we, .long le, .int pk, .int pm, .int co, .ref pa, .int pl, .ref xa, .ref ya, .int mb, .ref ea, .ref wa]))]) [0] rfl⟩⟩ rfl rfl hl.1 rfl (lv_room (Nat.le_of_ble_eq_true rfl)) dR_teeth_65 ⟨Nat.zero_le _, Nat.zero_le _⟩) ?_
          refine lv_if_eq (tgt := 75) hx hb dR_teeth_68 (by decide) (fun c_17 => ?_) (fun c_17 => ?_)
          · have c_17 := xb_bi_f.mp c_17
            refine lv_iload hx hb dR_teeth_75 (lv_at hl 0 rfl) ?_
            refine lv_if_eq (tgt := 84) hx hb dR_teeth_77 (by decide) (fun c_18 => ?_) (fun c_18 => ?_)
            · refine lv_iconst (v := 2) hx hb dR_teeth_84 (by decide) ?_
              refine va_put (D := (dC, dI)) (ci := 3) (v := .int 2) (ty := .int) (C := xR_R) (T := xF_R) (N := 20) hx hb hts xi_R xt_R xt_R_ok xn_R hown hK hP hD hS 0 rfl rfl 0 (by decide) (hts _ xk_646) (fun _ h9 => h9) rfl (by decide +kernel) rfl rfl (Nat.le_of_ble_eq_true rfl) dR_teeth_85 (fun H locs hP hD hS => ?_)
              have hP : va_P (dC, dI) classes [(h0, .inr (3, [.int 2, .ref ta, .int zs, .int po, .int fa, .ref da, .ref ra, .ref la, .long we, .long le, .int pk, .int pm, .int co, .ref pa, .int pl, .ref xa, .ref ya, .int mb, .ref ea, .ref wa])), (ea, .inl (cI, 24, .inl ef)), (wa, .inl (cI, 6, .inl wf))] H := hP
              have hD : va_D A [(h0, .inr (3, [.int 2, .ref ta, .int zs, .int po, .int fa, .ref da, .ref ra, .ref la, .long we, .long le, .int pk, .int pm, .int co, .ref pa, .int pl, .ref xa, .ref ya, .int mb, .ref ea, .ref wa])), (ea, .inl (cI, 24, .inl ef)), (wa, .inl (cI, 6, .inl wf))] := hD
              refine lv_iconst (v := 0) hx hb dR_teeth_88 (by decide) ?_
              refine lv_istore (lv' := [(8, .int 0), (7, .int 0), (0, .ref h0), (1, .int m1), (2, .int x), (3, .int y), (4, .int w), (5, .int h), (6, .int stp)]) hx hb dR_teeth_89 hl (by decide) rfl (fun ls hl => ?_)
              refine lv_iconst (v := 0) hx hb dR_teeth_91 (by decide) ?_
              refine lv_istore (lv' := [(9, .int 0), (8, .int 0), (7, .int 0), (0, .ref h0), (1, .int m1), (2, .int x), (3, .int y), (4, .int w), (5, .int h), (6, .int stp)]) hx hb dR_teeth_92 hl (by decide) rfl (fun ls hl => ?_)
              have lp_94 : ∀ (n_94 : Nat) (nn : Int32) (wi : Int32), (xl_t n_94 wi) → gR_teeth ef wf mb m1 x y w h stp = kR_teeth_94g_0 ef wf mb m1 x y w h stp n_94 nn wi → gR_teeth_0 ef wf mb m1 x y w h stp = kR_teeth_94g_1 ef wf mb m1 x y w h stp n_94 nn wi → ∀ (H : Heap) (locs : List Loc), va_P (dC, dI) classes [(h0, .inr (3, [.int 2, .ref ta, .int zs, .int po, .int fa, .ref da, .ref ra, .ref la, .long we, .long le, .int pk, .int pm, .int co, .ref pa, .int pl, .ref xa, .ref ya, .int mb, .ref ea, .ref wa])), (ea, .inl (cI, 24, .inl ef)), (wa, .inl (cI, 6, .inl wf))] H → va_D A [(h0, .inr (3, [.int 2, .ref ta, .int zs, .int po, .int fa, .ref da, .ref ra, .ref la, .long we, .long le, .int pk, .int pm, .int co, .ref pa, .int pl, .ref xa, .ref ya, .int mb, .ref ea, .ref wa])), (ea, .inl (cI, 24, .inl ef)), (wa, .inl (cI, 6, .inl wf))] → va_S A s.heap H locs → ∀ ls : Array Slot, lv_has ls 11 [(8, .int nn), (9, .int wi), (7, .int 0), (0, .ref h0), (1, .int m1), (2, .int x), (3, .int y), (4, .int w), (5, .int h), (6, .int stp)] → W p l e (headSpec [.code yR_teeth bR_teeth 11 (some (.int))] ({ frames := 2, cells := 0, slots := 0, locals := 45 })).room s m ([.ref h0, .int m1, .int x, .int y, .int w, .int h, .int stp] : List Value).toArray below meth c H locs 0 0 (MQ below (xb_W (dC, dI) (fun v9 w9 => v9 = some (.int (gR_teeth ef wf mb m1 x y w h stp)) ∧ w9 = [(h0, .inr (3, [.int (gR_teeth_0 ef wf mb m1 x y w h stp), .ref ta, .int zs, .int po, .int fa, .ref da, .ref ra, .ref la, .long we, .long le, .int pk, .int pm, .int co, .ref pa, .int pl, .ref xa, .ref ya, .int mb, .ref ea, .ref wa])), (ea, .inl (cI, 24, .inl ef)), (wa, .inl (cI, 6, .inl wf))]) A) ([.ref h0, .int m1, .int x, .int y, .int w, .int h, .int stp] : List Value).toArray s 0 0 A) (F0 m 94 ls []) := by
                intro n_94
                induction n_94 with
                | zero =>
                  intro nn wi hinv_94
                  exact xl_t0 hinv_94
                | succ n_94 ih_94 =>
                  intro nn wi hinv_94 hres_94_0 hres_94_1 H locs hP hD hS ls hl
                  refine lv_aload_n hx hb dR_teeth_94 rfl (lv_at hl 3 rfl) ?_
                  refine va_get (D := (dC, dI)) (ci := 3) (v := .int 2) (C := xR_R) (T := xF_R) (N := 20) hx hb hts xi_R hown hK hP 0 rfl rfl 0 (by decide) (hts _ xk_646) (fun _ h9 => h9) rfl dR_teeth_95 ?_
                  refine lv_if_ne (tgt := 167) hx hb dR_teeth_98 (by decide) (fun c_19 => ?_) (fun c_19 => ?_)
                  · refine lv_iload hx hb dR_teeth_167 (lv_at hl 0 rfl) ?_
                    have e_0 : gR_teeth ef wf mb m1 x y w h stp = nn := hres_94_0.trans (rfl)
                    have e_1 : gR_teeth_0 ef wf mb m1 x y w h stp = (2 : Int32) := hres_94_1.trans (rfl)
                    have hP9 := hP.sub (ws' := [(h0, .inr (3, [.int 2, .ref ta, .int zs, .int po, .int fa, .ref da, .ref ra, .ref la, .long we, .long le, .int pk, .int pm, .int co, .ref pa, .int pl, .ref xa, .ref ya, .int mb, .ref ea, .ref wa])), (ea, .inl (cI, 24, .inl ef)), (wa, .inl (cI, 6, .inl wf))]) [0, 1, 2] rfl
                    have hD9 := hD.sub (ws' := [(h0, .inr (3, [.int 2, .ref ta, .int zs, .int po, .int fa, .ref da, .ref ra, .ref la, .long we, .long le, .int pk, .int pm, .int co, .ref pa, .int pl, .ref xa, .ref ya, .int mb, .ref ea, .ref wa])), (ea, .inl (cI, 24, .inl ef)), (wa, .inl (cI, 6, .inl wf))]) [0, 1, 2] (by decide) rfl
                    exact W.iret (v := nn) hx hb hr (fun t ht hW => ⟨_, _, rfl, ⟨by first | rfl | (simp only [e_0, e_1]; try rfl), by first | rfl | (simp only [e_0, e_1]; try rfl)⟩, by rw [ht]; exact hP9, hD9, hS.F ht⟩) hS.2.2 dR_teeth_169
                  · exact absurd c_19 (by decide)
              have v_inv : xl_t 201 (0 : Int32) := ⟨0, rfl, by omega, by omega⟩
              have v_0 : gR_teeth ef wf mb m1 x y w h stp = kR_teeth_94g_0 ef wf mb m1 x y w h stp 201 (0) (0) := (if_pos c_1).trans ((if_pos c_6).trans ((if_pos c_11).trans ((if_neg c_16).trans ((if_neg c_17).trans (rfl)))))
              have v_1 : gR_teeth_0 ef wf mb m1 x y w h stp = kR_teeth_94g_1 ef wf mb m1 x y w h stp 201 (0) (0) := (if_pos c_1).trans ((if_pos c_6).trans ((if_pos c_11).trans ((if_neg c_16).trans ((if_neg c_17).trans (rfl)))))
              exact lp_94 201 (0) (0) v_inv v_0 v_1 _ _ (hP.sub (ws' := [(h0, .inr (3, [.int 2, .ref ta, .int zs, .int po, .int fa, .ref da, .ref ra, .ref la, .long we, .long le, .int pk, .int pm, .int co, .ref pa, .int pl, .ref xa, .ref ya, .int mb, .ref ea, .ref wa])), (ea, .inl (cI, 24, .inl ef)), (wa, .inl (cI, 6, .inl wf))]) [0, 1, 2] rfl) (hD.sub (ws' := [(h0, .inr (3, [.int 2, .ref ta, .int zs, .int po, .int fa, .ref da, .ref ra, .ref la, .long we, .long le, .int pk, .int pm, .int co, .ref pa, .int pl, .ref xa, .ref ya, .int mb, .ref ea, .ref wa])), (ea, .inl (cI, 24, .inl ef)), (wa, .inl (cI, 6, .inl wf))]) [0, 1, 2] (by decide) rfl) hS ls (lv_sub hl [1, 0, 2, 3, 4, 5, 6, 7, 8, 9] rfl)
            · exact absurd c_18 (by decide)
          · have c_17 := xb_bi_t.mp c_17
            refine lv_iconst (v := 1) hx hb dR_teeth_71 (by decide) ?_
            refine lv_goto (tgt := 85) hx hb dR_teeth_72 (by decide) ?_
            refine va_put (D := (dC, dI)) (ci := 3) (v := .int 1) (ty := .int) (C := xR_R) (T := xF_R) (N := 20) hx hb hts xi_R xt_R xt_R_ok xn_R hown hK hP hD hS 0 rfl rfl 0 (by decide) (hts _ xk_646) (fun _ h9 => h9) rfl (by decide +kernel) rfl rfl (Nat.le_of_ble_eq_true rfl) dR_teeth_85 (fun H locs hP hD hS => ?_)
            have hP : va_P (dC, dI) classes [(h0, .inr (3, [.int 1, .ref ta, .int zs, .int po, .int fa, .ref da, .ref ra, .ref la, .long we, .long le, .int pk, .int pm, .int co, .ref pa, .int pl, .ref xa, .ref ya, .int mb, .ref ea, .ref wa])), (ea, .inl (cI, 24, .inl ef)), (wa, .inl (cI, 6, .inl wf))] H := hP
            have hD : va_D A [(h0, .inr (3, [.int 1, .ref ta, .int zs, .int po, .int fa, .ref da, .ref ra, .ref la, .long we, .long le, .int pk, .int pm, .int co, .ref pa, .int pl, .ref xa, .ref ya, .int mb, .ref ea, .ref wa])), (ea, .inl (cI, 24, .inl ef)), (wa, .inl (cI, 6, .inl wf))] := hD
            refine lv_iconst (v := 0) hx hb dR_teeth_88 (by decide) ?_
            refine lv_istore (lv' := [(8, .int 0), (7, .int 0), (0, .ref h0), (1, .int m1), (2, .int x), (3, .int y), (4, .int w), (5, .int h), (6, .int stp)]) hx hb dR_teeth_89 hl (by decide) rfl (fun ls hl => ?_)
            refine lv_iconst (v := 0) hx hb dR_teeth_91 (by decide) ?_
            refine lv_istore (lv' := [(9, .int 0), (8, .int 0), (7, .int 0), (0, .ref h0), (1, .int m1), (2, .int x), (3, .int y), (4, .int w), (5, .int h), (6, .int stp)]) hx hb dR_teeth_92 hl (by decide) rfl (fun ls hl => ?_)
            have lp_94 : ∀ (n_94 : Nat) (nn : Int32) (wi : Int32), (xl_t n_94 wi) → gR_teeth ef wf mb m1 x y w h stp = kR_teeth_94h_0 ef wf mb m1 x y w h stp n_94 nn wi → gR_teeth_0 ef wf mb m1 x y w h stp = kR_teeth_94h_1 ef wf mb m1 x y w h stp n_94 nn wi → ∀ (H : Heap) (locs : List Loc), va_P (dC, dI) classes [(h0, .inr (3, [.int 1, .ref ta, .int zs, .int po, .int fa, .ref da, .ref ra, .ref la, .long we, .long le, .int pk, .int pm, .int co, .ref pa, .int pl, .ref xa, .ref ya, .int mb, .ref ea, .ref wa])), (ea, .inl (cI, 24, .inl ef)), (wa, .inl (cI, 6, .inl wf))] H → va_D A [(h0, .inr (3, [.int 1, .ref ta, .int zs, .int po, .int fa, .ref da, .ref ra, .ref la, .long we, .long le, .int pk, .int pm, .int co, .ref pa, .int pl, .ref xa, .ref ya, .int mb, .ref ea, .ref wa])), (ea, .inl (cI, 24, .inl ef)), (wa, .inl (cI, 6, .inl wf))] → va_S A s.heap H locs → ∀ ls : Array Slot, lv_has ls 11 [(8, .int nn), (9, .int wi), (7, .int 0), (0, .ref h0), (1, .int m1), (2, .int x), (3, .int y), (4, .int w), (5, .int h), (6, .int stp)] → W p l e (headSpec [.code yR_teeth bR_teeth 11 (some (.int))] ({ frames := 2, cells := 0, slots := 0, locals := 45 })).room s m ([.ref h0, .int m1, .int x, .int y, .int w, .int h, .int stp] : List Value).toArray below meth c H locs 0 0 (MQ below (xb_W (dC, dI) (fun v9 w9 => v9 = some (.int (gR_teeth ef wf mb m1 x y w h stp)) ∧ w9 = [(h0, .inr (3, [.int (gR_teeth_0 ef wf mb m1 x y w h stp), .ref ta, .int zs, .int po, .int fa, .ref da, .ref ra, .ref la, .long we, .long le, .int pk, .int pm, .int co, .ref pa, .int pl, .ref xa, .ref ya, .int mb, .ref ea, .ref wa])), (ea, .inl (cI, 24, .inl ef)), (wa, .inl (cI, 6, .inl wf))]) A) ([.ref h0, .int m1, .int x, .int y, .int w, .int h, .int stp] : List Value).toArray s 0 0 A) (F0 m 94 ls []) := by
              intro n_94
              induction n_94 with
              | zero =>
                intro nn wi hinv_94
                exact xl_t0 hinv_94
              | succ n_94 ih_94 =>
                intro nn wi hinv_94 hres_94_0 hres_94_1 H locs hP hD hS ls hl
                refine lv_aload_n hx hb dR_teeth_94 rfl (lv_at hl 3 rfl) ?_
                refine va_get (D := (dC, dI)) (ci := 3) (v := .int 1) (C := xR_R) (T := xF_R) (N := 20) hx hb hts xi_R hown hK hP 0 rfl rfl 0 (by decide) (hts _ xk_646) (fun _ h9 => h9) rfl dR_teeth_95 ?_
                refine lv_if_ne (tgt := 167) hx hb dR_teeth_98 (by decide) (fun c_20 => ?_) (fun c_20 => ?_)
                · refine lv_iload hx hb dR_teeth_167 (lv_at hl 0 rfl) ?_
                  have e_0 : gR_teeth ef wf mb m1 x y w h stp = nn := hres_94_0.trans (rfl)
                  have e_1 : gR_teeth_0 ef wf mb m1 x y w h stp = (1 : Int32) := hres_94_1.trans (rfl)
                  have hP9 := hP.sub (ws' := [(h0, .inr (3, [.int 1, .ref ta, .int zs, .int po, .int fa, .ref da, .ref ra, .ref la, .long we, .long le, .int pk, .int pm, .int co, .ref pa, .int pl, .ref xa, .ref ya, .int mb, .ref ea, .ref wa])), (ea, .inl (cI, 24, .inl ef)), (wa, .inl (cI, 6, .inl wf))]) [0, 1, 2] rfl
                  have hD9 := hD.sub (ws' := [(h0, .inr (3, [.int 1, .ref ta, .int zs, .int po, .int fa, .ref da, .ref ra, .ref la, .long we, .long le, .int pk, .int pm, .int co, .ref pa, .int pl, .ref xa, .ref ya, .int mb, .ref ea, .ref wa])), (ea, .inl (cI, 24, .inl ef)), (wa, .inl (cI, 6, .inl wf))]) [0, 1, 2] (by decide) rfl
                  exact W.iret (v := nn) hx hb hr (fun t ht hW => ⟨_, _, rfl, ⟨by first | rfl | (simp only [e_0, e_1]; try rfl), by first | rfl | (simp only [e_0, e_1]; try rfl)⟩, by rw [ht]; exact hP9, hD9, hS.F ht⟩) hS.2.2 dR_teeth_169
                · exact absurd c_20 (by decide)
            have v_inv : xl_t 201 (0 : Int32) := ⟨0, rfl, by omega, by omega⟩
            have v_0 : gR_teeth ef wf mb m1 x y w h stp = kR_teeth_94h_0 ef wf mb m1 x y w h stp 201 (0) (0) := (if_pos c_1).trans ((if_pos c_6).trans ((if_pos c_11).trans ((if_neg c_16).trans ((if_pos c_17).trans (rfl)))))
            have v_1 : gR_teeth_0 ef wf mb m1 x y w h stp = kR_teeth_94h_1 ef wf mb m1 x y w h stp 201 (0) (0) := (if_pos c_1).trans ((if_pos c_6).trans ((if_pos c_11).trans ((if_neg c_16).trans ((if_pos c_17).trans (rfl)))))
            exact lp_94 201 (0) (0) v_inv v_0 v_1 _ _ (hP.sub (ws' := [(h0, .inr (3, [.int 1, .ref ta, .int zs, .int po, .int fa, .ref da, .ref ra, .ref la, .long we, .long le, .int pk, .int pm, .int co, .ref pa, .int pl, .ref xa, .ref ya, .int mb, .ref ea, .ref wa])), (ea, .inl (cI, 24, .inl ef)), (wa, .inl (cI, 6, .inl wf))]) [0, 1, 2] rfl) (hD.sub (ws' := [(h0, .inr (3, [.int 1, .ref ta, .int zs, .int po, .int fa, .ref da, .ref ra, .ref la, .long we, .long le, .int pk, .int pm, .int co, .ref pa, .int pl, .ref xa, .ref ya, .int mb, .ref ea, .ref wa])), (ea, .inl (cI, 24, .inl ef)), (wa, .inl (cI, 6, .inl wf))]) [0, 1, 2] (by decide) rfl) hS ls (lv_sub hl [1, 0, 2, 3, 4, 5, 6, 7, 8, 9] rfl)
        · have c_16 := xb_bi_t.mp c_16
          refine lv_iload hx hb dR_teeth_40 (lv_at hl 6 rfl) ?_
          refine lv_i2l hx hb dR_teeth_42 rfl ?_
          refine lv_ldc2 (v := 10) hx hb hown (hts _ xk_840) dR_teeth_43 ?_
          refine lv_ldc2 (v := 1000) hx hb hown (hts _ xk_765) dR_teeth_46 ?_
          refine xb_rd (W.runS (As := [.long stp.toInt64, .long 10, .long 1000]) (rest := []) ⟨hx, hb, hml, hown, hts⟩ (cR_isIn l E stp.toInt64 10 1000) (cwS 3 hts (xb_gi (List.forall_mem_cons.mpr ⟨xk_754, List.forall_mem_cons.mpr ⟨xk_755, List.forall_mem_cons.mpr ⟨xk_45, List.forall_mem_cons.mpr ⟨xk_756, fun _ h => absurd h List.not_mem_nil⟩⟩⟩⟩)) rfl rfl rfl (by decide +kernel) ⟨Nat.le_of_ble_eq_true rfl, Nat.le_of_ble_eq_true rfl⟩) ⟨fun _ _ _ _ q => q, fun U hU hW => ⟨rfl, xb_atS hAt hS hA0 hU hW, fun k q h => by simp at h⟩⟩ rfl rfl hl.1 rfl (lv_room (Nat.le_of_ble_eq_true rfl)) dR_teeth_49 ⟨Nat.zero_le _, Nat.zero_le _⟩) ?_
          refine lv_if_eq (tgt := 59) hx hb dR_teeth_52 (by decide) (fun c_21 => ?_) (fun c_21 => ?_)
          · have c_21 := xb_bi_f.mp c_21
            refine lv_iconst (v := 0) hx hb dR_teeth_59 (by decide) ?_
            refine lv_istore (lv' := [(7, .int 0), (0, .ref h0), (1, .int m1), (2, .int x), (3, .int y), (4, .int w), (5, .int h), (6, .int stp)]) hx hb dR_teeth_60 hl (by decide) rfl (fun ls hl => ?_)
            refine lv_aload_n hx hb dR_teeth_62 rfl (lv_at hl 1 rfl) ?_
            refine lv_aload_n hx hb dR_teeth_63 rfl (lv_at hl 1 rfl) ?_
            refine lv_iload_n hx hb dR_teeth_64 rfl (lv_at hl 2 rfl) ?_
            refine xb_rd (W.runV (C := "NailRulesModel") (As := [.int m1]) (rest := [.ref h0]) ⟨hx, hb, hml, hown, hts⟩ (cR_noMember l E h0 ([.int th, .ref ta, .int zs, .int po, .int fa, .ref da, .ref ra, .ref la, .long we, .long le, .int pk, .int pm, .int co, .ref pa, .int pl, .ref xa, .ref ya, .int mb, .ref ea, .ref wa]) mb m1 rfl) (cwV 1 hts (xb_gi (List.forall_mem_cons.mpr ⟨xk_828, List.forall_mem_cons.mpr ⟨xk_830, List.forall_mem_cons.mpr ⟨xk_37, List.forall_mem_cons.mpr ⟨xk_45, List.forall_mem_cons.mpr ⟨xk_831, fun _ h => absurd h List.not_mem_nil⟩⟩⟩⟩⟩)) rfl rfl rfl (by decide +kernel) ⟨Nat.le_of_ble_eq_true rfl, Nat.le_of_ble_eq_true rfl⟩) ⟨fun _ _ _ _ q => q, va_recv hK hP (ci := 3) (q0 := 0) rfl rfl, fun U hU hW => ⟨rfl, xb_atS hAt hS hA0 hU hW, by rw [hU]; exact hP.sub (ws' := [(h0, .inr (3, [.int th, .ref ta, .int zs, .int po, .int fa, .ref da, .ref ra, .ref la, .long we, .long le, .int pk, .int pm, .int co, .ref pa, .int pl, .ref xa, .ref ya, .int mb, .ref ea, .ref wa]))]) [0] rfl⟩⟩ rfl rfl hl.1 rfl (lv_room (Nat.le_of_ble_eq_true rfl)) dR_teeth_65 ⟨Nat.zero_le _, Nat.zero_le _⟩) ?_
            refine lv_if_eq (tgt := 75) hx hb dR_teeth_68 (by decide) (fun c_22 => ?_) (fun c_22 => ?_)
            · have c_22 := xb_bi_f.mp c_22
              refine lv_iload hx hb dR_teeth_75 (lv_at hl 0 rfl) ?_
              refine lv_if_eq (tgt := 84) hx hb dR_teeth_77 (by decide) (fun c_23 => ?_) (fun c_23 => ?_)
              · refine lv_iconst (v := 2) hx hb dR_teeth_84 (by decide) ?_
                refine va_put (D := (dC, dI)) (ci := 3) (v := .int 2) (ty := .int) (C := xR_R) (T := xF_R) (N := 20) hx hb hts xi_R xt_R xt_R_ok xn_R hown hK hP hD hS 0 rfl rfl 0 (by decide) (hts _ xk_646) (fun _ h9 => h9) rfl (by decide +kernel) rfl rfl (Nat.le_of_ble_eq_true rfl) dR_teeth_85 (fun H locs hP hD hS => ?_)
                have hP : va_P (dC, dI) classes [(h0, .inr (3, [.int 2, .ref ta, .int zs, .int po, .int fa, .ref da, .ref ra, .ref la, .long we, .long le, .int pk, .int pm, .int co, .ref pa, .int pl, .ref xa, .ref ya, .int mb, .ref ea, .ref wa])), (ea, .inl (cI, 24, .inl ef)), (wa, .inl (cI, 6, .inl wf))] H := hP
                have hD : va_D A [(h0, .inr (3, [.int 2, .ref ta, .int zs, .int po, .int fa, .ref da, .ref ra, .ref la, .long we, .long le, .int pk, .int pm, .int co, .ref pa, .int pl, .ref xa, .ref ya, .int mb, .ref ea, .ref wa])), (ea, .inl (cI, 24, .inl ef)), (wa, .inl (cI, 6, .inl wf))] := hD
                refine lv_iconst (v := 0) hx hb dR_teeth_88 (by decide) ?_
                refine lv_istore (lv' := [(8, .int 0), (7, .int 0), (0, .ref h0), (1, .int m1), (2, .int x), (3, .int y), (4, .int w), (5, .int h), (6, .int stp)]) hx hb dR_teeth_89 hl (by decide) rfl (fun ls hl => ?_)
                refine lv_iconst (v := 0) hx hb dR_teeth_91 (by decide) ?_
                refine lv_istore (lv' := [(9, .int 0), (8, .int 0), (7, .int 0), (0, .ref h0), (1, .int m1), (2, .int x), (3, .int y), (4, .int w), (5, .int h), (6, .int stp)]) hx hb dR_teeth_92 hl (by decide) rfl (fun ls hl => ?_)
                have lp_94 : ∀ (n_94 : Nat) (nn : Int32) (wi : Int32), (xl_t n_94 wi) → gR_teeth ef wf mb m1 x y w h stp = kR_teeth_94i_0 ef wf mb m1 x y w h stp n_94 nn wi → gR_teeth_0 ef wf mb m1 x y w h stp = kR_teeth_94i_1 ef wf mb m1 x y w h stp n_94 nn wi → ∀ (H : Heap) (locs : List Loc), va_P (dC, dI) classes [(h0, .inr (3, [.int 2, .ref ta, .int zs, .int po, .int fa, .ref da, .ref ra, .ref la, .long we, .long le, .int pk, .int pm, .int co, .ref pa, .int pl, .ref xa, .ref ya, .int mb, .ref ea, .ref wa])), (ea, .inl (cI, 24, .inl ef)), (wa, .inl (cI, 6, .inl wf))] H → va_D A [(h0, .inr (3, [.int 2, .ref ta, .int zs, .int po, .int fa, .ref da, .ref ra, .ref la, .long we, .long le, .int pk, .int pm, .int co, .ref pa, .int pl, .ref xa, .ref ya, .int mb, .ref ea, .ref wa])), (ea, .inl (cI, 24, .inl ef)), (wa, .inl (cI, 6, .inl wf))] → va_S A s.heap H locs → ∀ ls : Array Slot, lv_has ls 11 [(8, .int nn), (9, .int wi), (7, .int 0), (0, .ref h0), (1, .int m1), (2, .int x), (3, .int y), (4, .int w), (5, .int h), (6, .int stp)] → W p l e (headSpec [.code yR_teeth bR_teeth 11 (some (.int))] ({ frames := 2, cells := 0, slots := 0, locals := 45 })).room s m ([.ref h0, .int m1, .int x, .int y, .int w, .int h, .int stp] : List Value).toArray below meth c H locs 0 0 (MQ below (xb_W (dC, dI) (fun v9 w9 => v9 = some (.int (gR_teeth ef wf mb m1 x y w h stp)) ∧ w9 = [(h0, .inr (3, [.int (gR_teeth_0 ef wf mb m1 x y w h stp), .ref ta, .int zs, .int po, .int fa, .ref da, .ref ra, .ref la, .long we, .long le, .int pk, .int pm, .int co, .ref pa, .int pl, .ref xa, .ref ya, .int mb, .ref ea, .ref wa])), (ea, .inl (cI, 24, .inl ef)), (wa, .inl (cI, 6, .inl wf))]) A) ([.ref h0, .int m1, .int x, .int y, .int w, .int h, .int stp] : List Value).toArray s 0 0 A) (F0 m 94 ls []) := by
                  intro n_94
                  induction n_94 with
                  | zero =>
                    intro nn wi hinv_94
                    exact xl_t0 hinv_94
                  | succ n_94 ih_94 =>
                    intro nn wi hinv_94 hres_94_0 hres_94_1 H locs hP hD hS ls hl
                    refine lv_aload_n hx hb dR_teeth_94 rfl (lv_at hl 3 rfl) ?_
                    refine va_get (D := (dC, dI)) (ci := 3) (v := .int 2) (C := xR_R) (T := xF_R) (N := 20) hx hb hts xi_R hown hK hP 0 rfl rfl 0 (by decide) (hts _ xk_646) (fun _ h9 => h9) rfl dR_teeth_95 ?_
                    refine lv_if_ne (tgt := 167) hx hb dR_teeth_98 (by decide) (fun c_24 => ?_) (fun c_24 => ?_)
                    · refine lv_iload hx hb dR_teeth_167 (lv_at hl 0 rfl) ?_
                      have e_0 : gR_teeth ef wf mb m1 x y w h stp = nn := hres_94_0.trans (rfl)
                      have e_1 : gR_teeth_0 ef wf mb m1 x y w h stp = (2 : Int32) := hres_94_1.trans (rfl)
                      have hP9 := hP.sub (ws' := [(h0, .inr (3, [.int 2, .ref ta, .int zs, .int po, .int fa, .ref da, .ref ra, .ref la, .long we, .long le, .int pk, .int pm, .int co, .ref pa, .int pl, .ref xa, .ref ya, .int mb, .ref ea, .ref wa])), (ea, .inl (cI, 24, .inl ef)), (wa, .inl (cI, 6, .inl wf))]) [0, 1, 2] rfl
                      have hD9 := hD.sub (ws' := [(h0, .inr (3, [.int 2, .ref ta, .int zs, .int po, .int fa, .ref da, .ref ra, .ref la, .long we, .long le, .int pk, .int pm, .int co, .ref pa, .int pl, .ref xa, .ref ya, .int mb, .ref ea, .ref wa])), (ea, .inl (cI, 24, .inl ef)), (wa, .inl (cI, 6, .inl wf))]) [0, 1, 2] (by decide) rfl
                      exact W.iret (v := nn) hx hb hr (fun t ht hW => ⟨_, _, rfl, ⟨by first | rfl | (simp only [e_0, e_1]; try rfl), by first | rfl | (simp only [e_0, e_1]; try rfl)⟩, by rw [ht]; exact hP9, hD9, hS.F ht⟩) hS.2.2 dR_teeth_169
                    · exact absurd c_24 (by decide)
                have v_inv : xl_t 201 (0 : Int32) := ⟨0, rfl, by omega, by omega⟩
                have v_0 : gR_teeth ef wf mb m1 x y w h stp = kR_teeth_94i_0 ef wf mb m1 x y w h stp 201 (0) (0) := (if_pos c_1).trans ((if_pos c_6).trans ((if_pos c_11).trans ((if_pos c_16).trans ((if_neg c_21).trans ((if_neg c_22).trans (rfl))))))
                have v_1 : gR_teeth_0 ef wf mb m1 x y w h stp = kR_teeth_94i_1 ef wf mb m1 x y w h stp 201 (0) (0) := (if_pos c_1).trans ((if_pos c_6).trans ((if_pos c_11).trans ((if_pos c_16).trans ((if_neg c_21).trans ((if_neg c_22).trans (rfl))))))
                exact lp_94 201 (0) (0) v_inv v_0 v_1 _ _ (hP.sub (ws' := [(h0, .inr (3, [.int 2, .ref ta, .int zs, .int po, .int fa, .ref da, .ref ra, .ref la, .long we, .long le, .int pk, .int pm, .int co, .ref pa, .int pl, .ref xa, .ref ya, .int mb, .ref ea, .ref wa])), (ea, .inl (cI, 24, .inl ef)), (wa, .inl (cI, 6, .inl wf))]) [0, 1, 2] rfl) (hD.sub (ws' := [(h0, .inr (3, [.int 2, .ref ta, .int zs, .int po, .int fa, .ref da, .ref ra, .ref la, .long we, .long le, .int pk, .int pm, .int co, .ref pa, .int pl, .ref xa, .ref ya, .int mb, .ref ea, .ref wa])), (ea, .inl (cI, 24, .inl ef)), (wa, .inl (cI, 6, .inl wf))]) [0, 1, 2] (by decide) rfl) hS ls (lv_sub hl [1, 0, 2, 3, 4, 5, 6, 7, 8, 9] rfl)
              · exact absurd c_23 (by decide)
            · have c_22 := xb_bi_t.mp c_22
              refine lv_iconst (v := 1) hx hb dR_teeth_71 (by decide) ?_
              refine lv_goto (tgt := 85) hx hb dR_teeth_72 (by decide) ?_
              refine va_put (D := (dC, dI)) (ci := 3) (v := .int 1) (ty := .int) (C := xR_R) (T := xF_R) (N := 20) hx hb hts xi_R xt_R xt_R_ok xn_R hown hK hP hD hS 0 rfl rfl 0 (by decide) (hts _ xk_646) (fun _ h9 => h9) rfl (by decide +kernel) rfl rfl (Nat.le_of_ble_eq_true rfl) dR_teeth_85 (fun H locs hP hD hS => ?_)
              have hP : va_P (dC, dI) classes [(h0, .inr (3, [.int 1, .ref ta, .int zs, .int po, .int fa, .ref da, .ref ra, .ref la, .long we, .long le, .int pk, .int pm, .int co, .ref pa, .int pl, .ref xa, .ref ya, .int mb, .ref ea, .ref wa])), (ea, .inl (cI, 24, .inl ef)), (wa, .inl (cI, 6, .inl wf))] H := hP
              have hD : va_D A [(h0, .inr (3, [.int 1, .ref ta, .int zs, .int po, .int fa, .ref da, .ref ra, .ref la, .long we, .long le, .int pk, .int pm, .int co, .ref pa, .int pl, .ref xa, .ref ya, .int mb, .ref ea, .ref wa])), (ea, .inl (cI, 24, .inl ef)), (wa, .inl (cI, 6, .inl wf))] := hD
              refine lv_iconst (v := 0) hx hb dR_teeth_88 (by decide) ?_
              refine lv_istore (lv' := [(8, .int 0), (7, .int 0), (0, .ref h0), (1, .int m1), (2, .int x), (3, .int y), (4, .int w), (5, .int h), (6, .int stp)]) hx hb dR_teeth_89 hl (by decide) rfl (fun ls hl => ?_)
              refine lv_iconst (v := 0) hx hb dR_teeth_91 (by decide) ?_
              refine lv_istore (lv' := [(9, .int 0), (8, .int 0), (7, .int 0), (0, .ref h0), (1, .int m1), (2, .int x), (3, .int y), (4, .int w), (5, .int h), (6, .int stp)]) hx hb dR_teeth_92 hl (by decide) rfl (fun ls hl => ?_)
              have lp_94 : ∀ (n_94 : Nat) (nn : Int32) (wi : Int32), (xl_t n_94 wi) → gR_teeth ef wf mb m1 x y w h stp = kR_teeth_94j_0 ef wf mb m1 x y w h stp n_94 nn wi → gR_teeth_0 ef wf mb m1 x y w h stp = kR_teeth_94j_1 ef wf mb m1 x y w h stp n_94 nn wi → ∀ (H : Heap) (locs : List Loc), va_P (dC, dI) classes [(h0, .inr (3, [.int 1, .ref ta, .int zs, .int po, .int fa, .ref da, .ref ra, .ref la, .long we, .long le, .int pk, .int pm, .int co, .ref pa, .int pl, .ref xa, .ref ya, .int mb, .ref ea, .ref wa])), (ea, .inl (cI, 24, .inl ef)), (wa, .inl (cI, 6, .inl wf))] H → va_D A [(h0, .inr (3, [.int 1, .ref ta, .int zs, .int po, .int fa, .ref da, .ref ra, .ref la, .long we, .long le, .int pk, .int pm, .int co, .ref pa, .int pl, .ref xa, .ref ya, .int mb, .ref ea, .ref wa])), (ea, .inl (cI, 24, .inl ef)), (wa, .inl (cI, 6, .inl wf))] → va_S A s.heap H locs → ∀ ls : Array Slot, lv_has ls 11 [(8, .int nn), (9, .int wi), (7, .int 0), (0, .ref h0), (1, .int m1), (2, .int x), (3, .int y), (4, .int w), (5, .int h), (6, .int stp)] → W p l e (headSpec [.code yR_teeth bR_teeth 11 (some (.int))] ({ frames := 2, cells := 0, slots := 0, locals := 45 })).room s m ([.ref h0, .int m1, .int x, .int y, .int w, .int h, .int stp] : List Value).toArray below meth c H locs 0 0 (MQ below (xb_W (dC, dI) (fun v9 w9 => v9 = some (.int (gR_teeth ef wf mb m1 x y w h stp)) ∧ w9 = [(h0, .inr (3, [.int (gR_teeth_0 ef wf mb m1 x y w h stp), .ref ta, .int zs, .int po, .int fa, .ref da, .ref ra, .ref la, .long we, .long le, .int pk, .int pm, .int co, .ref pa, .int pl, .ref xa, .ref ya, .int mb, .ref ea, .ref wa])), (ea, .inl (cI, 24, .inl ef)), (wa, .inl (cI, 6, .inl wf))]) A) ([.ref h0, .int m1, .int x, .int y, .int w, .int h, .int stp] : List Value).toArray s 0 0 A) (F0 m 94 ls []) := by
                intro n_94
                induction n_94 with
                | zero =>
                  intro nn wi hinv_94
                  exact xl_t0 hinv_94
                | succ n_94 ih_94 =>
                  intro nn wi hinv_94 hres_94_0 hres_94_1 H locs hP hD hS ls hl
                  refine lv_aload_n hx hb dR_teeth_94 rfl (lv_at hl 3 rfl) ?_
                  refine va_get (D := (dC, dI)) (ci := 3) (v := .int 1) (C := xR_R) (T := xF_R) (N := 20) hx hb hts xi_R hown hK hP 0 rfl rfl 0 (by decide) (hts _ xk_646) (fun _ h9 => h9) rfl dR_teeth_95 ?_
                  refine lv_if_ne (tgt := 167) hx hb dR_teeth_98 (by decide) (fun c_25 => ?_) (fun c_25 => ?_)
                  · refine lv_iload hx hb dR_teeth_167 (lv_at hl 0 rfl) ?_
                    have e_0 : gR_teeth ef wf mb m1 x y w h stp = nn := hres_94_0.trans (rfl)
                    have e_1 : gR_teeth_0 ef wf mb m1 x y w h stp = (1 : Int32) := hres_94_1.trans (rfl)
                    have hP9 := hP.sub (ws' := [(h0, .inr (3, [.int 1, .ref ta, .int zs, .int po, .int fa, .ref da, .ref ra, .ref la, .long we, .long le, .int pk, .int pm, .int co, .ref pa, .int pl, .ref xa, .ref ya, .int mb, .ref ea, .ref wa])), (ea, .inl (cI, 24, .inl ef)), (wa, .inl (cI, 6, .inl wf))]) [0, 1, 2] rfl
                    have hD9 := hD.sub (ws' := [(h0, .inr (3, [.int 1, .ref ta, .int zs, .int po, .int fa, .ref da, .ref ra, .ref la, .long we, .long le, .int pk, .int pm, .int co, .ref pa, .int pl, .ref xa, .ref ya, .int mb, .ref ea, .ref wa])), (ea, .inl (cI, 24, .inl ef)), (wa, .inl (cI, 6, .inl wf))]) [0, 1, 2] (by decide) rfl
                    exact W.iret (v := nn) hx hb hr (fun t ht hW => ⟨_, _, rfl, ⟨by first | rfl | (simp only [e_0, e_1]; try rfl), by first | rfl | (simp only [e_0, e_1]; try rfl)⟩, by rw [ht]; exact hP9, hD9, hS.F ht⟩) hS.2.2 dR_teeth_169
                  · exact absurd c_25 (by decide)
              have v_inv : xl_t 201 (0 : Int32) := ⟨0, rfl, by omega, by omega⟩
              have v_0 : gR_teeth ef wf mb m1 x y w h stp = kR_teeth_94j_0 ef wf mb m1 x y w h stp 201 (0) (0) := (if_pos c_1).trans ((if_pos c_6).trans ((if_pos c_11).trans ((if_pos c_16).trans ((if_neg c_21).trans ((if_pos c_22).trans (rfl))))))
              have v_1 : gR_teeth_0 ef wf mb m1 x y w h stp = kR_teeth_94j_1 ef wf mb m1 x y w h stp 201 (0) (0) := (if_pos c_1).trans ((if_pos c_6).trans ((if_pos c_11).trans ((if_pos c_16).trans ((if_neg c_21).trans ((if_pos c_22).trans (rfl))))))
              exact lp_94 201 (0) (0) v_inv v_0 v_1 _ _ (hP.sub (ws' := [(h0, .inr (3, [.int 1, .ref ta, .int zs, .int po, .int fa, .ref da, .ref ra, .ref la, .long we, .long le, .int pk, .int pm, .int co, .ref pa, .int pl, .ref xa, .ref ya, .int mb, .ref ea, .ref wa])), (ea, .inl (cI, 24, .inl ef)), (wa, .inl (cI, 6, .inl wf))]) [0, 1, 2] rfl) (hD.sub (ws' := [(h0, .inr (3, [.int 1, .ref ta, .int zs, .int po, .int fa, .ref da, .ref ra, .ref la, .long we, .long le, .int pk, .int pm, .int co, .ref pa, .int pl, .ref xa, .ref ya, .int mb, .ref ea, .ref wa])), (ea, .inl (cI, 24, .inl ef)), (wa, .inl (cI, 6, .inl wf))]) [0, 1, 2] (by decide) rfl) hS ls (lv_sub hl [1, 0, 2, 3, 4, 5, 6, 7, 8, 9] rfl)
          · have c_21 := xb_bi_t.mp c_21
            refine lv_iconst (v := 1) hx hb dR_teeth_55 (by decide) ?_
            refine lv_goto (tgt := 60) hx hb dR_teeth_56 (by decide) ?_
            refine lv_istore (lv' := [(7, .int 1), (0, .ref h0), (1, .int m1), (2, .int x), (3, .int y), (4, .int w), (5, .int h), (6, .int stp)]) hx hb dR_teeth_60 hl (by decide) rfl (fun ls hl => ?_)
            refine lv_aload_n hx hb dR_teeth_62 rfl (lv_at hl 1 rfl) ?_
            refine lv_aload_n hx hb dR_teeth_63 rfl (lv_at hl 1 rfl) ?_
            refine lv_iload_n hx hb dR_teeth_64 rfl (lv_at hl 2 rfl) ?_
            refine xb_rd (W.runV (C := "NailRulesModel") (As := [.int m1]) (rest := [.ref h0]) ⟨hx, hb, hml, hown, hts⟩ (cR_noMember l E h0 ([.int th, .ref ta, .int zs, .int po, .int fa, .ref da, .ref ra, .ref la, .long we, .long le, .int pk, .int pm, .int co, .ref pa, .int pl, .ref xa, .ref ya, .int mb, .ref ea, .ref wa]) mb m1 rfl) (cwV 1 hts (xb_gi (List.forall_mem_cons.mpr ⟨xk_828, List.forall_mem_cons.mpr ⟨xk_830, List.forall_mem_cons.mpr ⟨xk_37, List.forall_mem_cons.mpr ⟨xk_45, List.forall_mem_cons.mpr ⟨xk_831, fun _ h => absurd h List.not_mem_nil⟩⟩⟩⟩⟩)) rfl rfl rfl (by decide +kernel) ⟨Nat.le_of_ble_eq_true rfl, Nat.le_of_ble_eq_true rfl⟩) ⟨fun _ _ _ _ q => q, va_recv hK hP (ci := 3) (q0 := 0) rfl rfl, fun U hU hW => ⟨rfl, xb_atS hAt hS hA0 hU hW, by rw [hU]; exact hP.sub (ws' := [(h0, .inr (3, [.int th, .ref ta, .int zs, .int po, .int fa, .ref da, .ref ra, .ref la, .long we, .long le, .int pk, .int pm, .int co, .ref pa, .int pl, .ref xa, .ref ya, .int mb, .ref ea, .ref wa]))]) [0] rfl⟩⟩ rfl rfl hl.1 rfl (lv_room (Nat.le_of_ble_eq_true rfl)) dR_teeth_65 ⟨Nat.zero_le _, Nat.zero_le _⟩) ?_
            refine lv_if_eq (tgt := 75) hx hb dR_teeth_68 (by decide) (fun c_26 => ?_) (fun c_26 => ?_)
            · have c_26 := xb_bi_f.mp c_26
              refine lv_iload hx hb dR_teeth_75 (lv_at hl 0 rfl) ?_
              refine lv_if_eq (tgt := 84) hx hb dR_teeth_77 (by decide) (fun c_27 => ?_) (fun c_27 => ?_)
              · exact absurd c_27 (by decide)
              · refine lv_iconst (v := 0) hx hb dR_teeth_80 (by decide) ?_
                refine lv_goto (tgt := 85) hx hb dR_teeth_81 (by decide) ?_
                refine va_put (D := (dC, dI)) (ci := 3) (v := .int 0) (ty := .int) (C := xR_R) (T := xF_R) (N := 20) hx hb hts xi_R xt_R xt_R_ok xn_R hown hK hP hD hS 0 rfl rfl 0 (by decide) (hts _ xk_646) (fun _ h9 => h9) rfl (by decide +kernel) rfl rfl (Nat.le_of_ble_eq_true rfl) dR_teeth_85 (fun H locs hP hD hS => ?_)
                have hP : va_P (dC, dI) classes [(h0, .inr (3, [.int 0, .ref ta, .int zs, .int po, .int fa, .ref da, .ref ra, .ref la, .long we, .long le, .int pk, .int pm, .int co, .ref pa, .int pl, .ref xa, .ref ya, .int mb, .ref ea, .ref wa])), (ea, .inl (cI, 24, .inl ef)), (wa, .inl (cI, 6, .inl wf))] H := hP
                have hD : va_D A [(h0, .inr (3, [.int 0, .ref ta, .int zs, .int po, .int fa, .ref da, .ref ra, .ref la, .long we, .long le, .int pk, .int pm, .int co, .ref pa, .int pl, .ref xa, .ref ya, .int mb, .ref ea, .ref wa])), (ea, .inl (cI, 24, .inl ef)), (wa, .inl (cI, 6, .inl wf))] := hD
                refine lv_iconst (v := 0) hx hb dR_teeth_88 (by decide) ?_
                refine lv_istore (lv' := [(8, .int 0), (7, .int 1), (0, .ref h0), (1, .int m1), (2, .int x), (3, .int y), (4, .int w), (5, .int h), (6, .int stp)]) hx hb dR_teeth_89 hl (by decide) rfl (fun ls hl => ?_)
                refine lv_iconst (v := 0) hx hb dR_teeth_91 (by decide) ?_
                refine lv_istore (lv' := [(9, .int 0), (8, .int 0), (7, .int 1), (0, .ref h0), (1, .int m1), (2, .int x), (3, .int y), (4, .int w), (5, .int h), (6, .int stp)]) hx hb dR_teeth_92 hl (by decide) rfl (fun ls hl => ?_)
                have lp_94 : ∀ (n_94 : Nat) (nn : Int32) (wi : Int32), (xl_t n_94 wi) → gR_teeth ef wf mb m1 x y w h stp = kR_teeth_94k_0 ef wf mb m1 x y w h stp n_94 nn wi → gR_teeth_0 ef wf mb m1 x y w h stp = kR_teeth_94k_1 ef wf mb m1 x y w h stp n_94 nn wi → ∀ (H : Heap) (locs : List Loc), va_P (dC, dI) classes [(h0, .inr (3, [.int 0, .ref ta, .int zs, .int po, .int fa, .ref da, .ref ra, .ref la, .long we, .long le, .int pk, .int pm, .int co, .ref pa, .int pl, .ref xa, .ref ya, .int mb, .ref ea, .ref wa])), (ea, .inl (cI, 24, .inl ef)), (wa, .inl (cI, 6, .inl wf))] H → va_D A [(h0, .inr (3, [.int 0, .ref ta, .int zs, .int po, .int fa, .ref da, .ref ra, .ref la, .long we, .long le, .int pk, .int pm, .int co, .ref pa, .int pl, .ref xa, .ref ya, .int mb, .ref ea, .ref wa])), (ea, .inl (cI, 24, .inl ef)), (wa, .inl (cI, 6, .inl wf))] → va_S A s.heap H locs → ∀ ls : Array Slot, lv_has ls 11 [(8, .int nn), (9, .int wi), (7, .int 1), (0, .ref h0), (1, .int m1), (2, .int x), (3, .int y), (4, .int w), (5, .int h), (6, .int stp)] → W p l e (headSpec [.code yR_teeth bR_teeth 11 (some (.int))] ({ frames := 2, cells := 0, slots := 0, locals := 45 })).room s m ([.ref h0, .int m1, .int x, .int y, .int w, .int h, .int stp] : List Value).toArray below meth c H locs 0 0 (MQ below (xb_W (dC, dI) (fun v9 w9 => v9 = some (.int (gR_teeth ef wf mb m1 x y w h stp)) ∧ w9 = [(h0, .inr (3, [.int (gR_teeth_0 ef wf mb m1 x y w h stp), .ref ta, .int zs, .int po, .int fa, .ref da, .ref ra, .ref la, .long we, .long le, .int pk, .int pm, .int co, .ref pa, .int pl, .ref xa, .ref ya, .int mb, .ref ea, .ref wa])), (ea, .inl (cI, 24, .inl ef)), (wa, .inl (cI, 6, .inl wf))]) A) ([.ref h0, .int m1, .int x, .int y, .int w, .int h, .int stp] : List Value).toArray s 0 0 A) (F0 m 94 ls []) := by
                  intro n_94
                  induction n_94 with
                  | zero =>
                    intro nn wi hinv_94
                    exact xl_t0 hinv_94
                  | succ n_94 ih_94 =>
                    intro nn wi hinv_94 hres_94_0 hres_94_1 H locs hP hD hS ls hl
                    refine lv_aload_n hx hb dR_teeth_94 rfl (lv_at hl 3 rfl) ?_
                    refine va_get (D := (dC, dI)) (ci := 3) (v := .int 0) (C := xR_R) (T := xF_R) (N := 20) hx hb hts xi_R hown hK hP 0 rfl rfl 0 (by decide) (hts _ xk_646) (fun _ h9 => h9) rfl dR_teeth_95 ?_
                    refine lv_if_ne (tgt := 167) hx hb dR_teeth_98 (by decide) (fun c_28 => ?_) (fun c_28 => ?_)
                    · exact absurd c_28 (by decide)
                    · refine lv_iload hx hb dR_teeth_101 (lv_at hl 1 rfl) ?_
                      refine lv_iload hx hb dR_teeth_103 (lv_at hl 7 rfl) ?_
                      refine lv_icmp_gt (tgt := 167) hx hb dR_teeth_105 (by decide) (fun c_29 => ?_) (fun c_29 => ?_)
                      · refine lv_iload hx hb dR_teeth_167 (lv_at hl 0 rfl) ?_
                        have e_0 : gR_teeth ef wf mb m1 x y w h stp = nn := hres_94_0.trans ((if_pos c_29).trans (rfl))
                        have e_1 : gR_teeth_0 ef wf mb m1 x y w h stp = (0 : Int32) := hres_94_1.trans ((if_pos c_29).trans (rfl))
                        have hP9 := hP.sub (ws' := [(h0, .inr (3, [.int 0, .ref ta, .int zs, .int po, .int fa, .ref da, .ref ra, .ref la, .long we, .long le, .int pk, .int pm, .int co, .ref pa, .int pl, .ref xa, .ref ya, .int mb, .ref ea, .ref wa])), (ea, .inl (cI, 24, .inl ef)), (wa, .inl (cI, 6, .inl wf))]) [0, 1, 2] rfl
                        have hD9 := hD.sub (ws' := [(h0, .inr (3, [.int 0, .ref ta, .int zs, .int po, .int fa, .ref da, .ref ra, .ref la, .long we, .long le, .int pk, .int pm, .int co, .ref pa, .int pl, .ref xa, .ref ya, .int mb, .ref ea, .ref wa])), (ea, .inl (cI, 24, .inl ef)), (wa, .inl (cI, 6, .inl wf))]) [0, 1, 2] (by decide) rfl
                        exact W.iret (v := nn) hx hb hr (fun t ht hW => ⟨_, _, rfl, ⟨by first | rfl | (simp only [e_0, e_1]; try rfl), by first | rfl | (simp only [e_0, e_1]; try rfl)⟩, by rw [ht]; exact hP9, hD9, hS.F ht⟩) hS.2.2 dR_teeth_169
                      · refine lv_iconst (v := 0) hx hb dR_teeth_108 (by decide) ?_
                        refine lv_istore (lv' := [(10, .int 0), (8, .int nn), (9, .int wi), (7, .int 1), (0, .ref h0), (1, .int m1), (2, .int x), (3, .int y), (4, .int w), (5, .int h), (6, .int stp)]) hx hb dR_teeth_109 hl (by decide) rfl (fun ls hl => ?_)
                        have lp_111 : ∀ (n_111 : Nat) (n2 : Int32) (wj : Int32), (xl_t n_111 wj) → gR_teeth ef wf mb m1 x y w h stp = kR_teeth_111a_0 ef wf mb m1 x y w h stp nn wi (fun nn wi => kR_teeth_94k_0 ef wf mb m1 x y w h stp n_94 nn wi) n_111 n2 wj → gR_teeth_0 ef wf mb m1 x y w h stp = kR_teeth_111a_1 ef wf mb m1 x y w h stp nn wi (fun nn wi => kR_teeth_94k_1 ef wf mb m1 x y w h stp n_94 nn wi) n_111 n2 wj → ∀ (H : Heap) (locs : List Loc), va_P (dC, dI) classes [(h0, .inr (3, [.int 0, .ref ta, .int zs, .int po, .int fa, .ref da, .ref ra, .ref la, .long we, .long le, .int pk, .int pm, .int co, .ref pa, .int pl, .ref xa, .ref ya, .int mb, .ref ea, .ref wa])), (ea, .inl (cI, 24, .inl ef)), (wa, .inl (cI, 6, .inl wf))] H → va_D A [(h0, .inr (3, [.int 0, .ref ta, .int zs, .int po, .int fa, .ref da, .ref ra, .ref la, .long we, .long le, .int pk, .int pm, .int co, .ref pa, .int pl, .ref xa, .ref ya, .int mb, .ref ea, .ref wa])), (ea, .inl (cI, 24, .inl ef)), (wa, .inl (cI, 6, .inl wf))] → va_S A s.heap H locs → ∀ ls : Array Slot, lv_has ls 11 [(8, .int n2), (10, .int wj), (9, .int wi), (7, .int 1), (0, .ref h0), (1, .int m1), (2, .int x), (3, .int y), (4, .int w), (5, .int h), (6, .int stp)] → W p l e (headSpec [.code yR_teeth bR_teeth 11 (some (.int))] ({ frames := 2, cells := 0, slots := 0, locals := 45 })).room s m ([.ref h0, .int m1, .int x, .int y, .int w, .int h, .int stp] : List Value).toArray below meth c H locs 0 0 (MQ below (xb_W (dC, dI) (fun v9 w9 => v9 = some (.int (gR_teeth ef wf mb m1 x y w h stp)) ∧ w9 = [(h0, .inr (3, [.int (gR_teeth_0 ef wf mb m1 x y w h stp), .ref ta, .int zs, .int po, .int fa, .ref da, .ref ra, .ref la, .long we, .long le, .int pk, .int pm, .int co, .ref pa, .int pl, .ref xa, .ref ya, .int mb, .ref ea, .ref wa])), (ea, .inl (cI, 24, .inl ef)), (wa, .inl (cI, 6, .inl wf))]) A) ([.ref h0, .int m1, .int x, .int y, .int w, .int h, .int stp] : List Value).toArray s 0 0 A) (F0 m 111 ls []) := by
                          intro n_111
                          induction n_111 with
                          | zero =>
                            intro n2 wj hinv_111
                            exact xl_t0 hinv_111
                          | succ n_111 ih_111 =>
                            intro n2 wj hinv_111 hres_111_0 hres_111_1 H locs hP hD hS ls hl
                            refine lv_iload hx hb dR_teeth_111 (lv_at hl 1 rfl) ?_
                            refine lv_iload hx hb dR_teeth_113 (lv_at hl 9 rfl) ?_
                            refine lv_icmp_gt (tgt := 157) hx hb dR_teeth_115 (by decide) (fun c_30 => ?_) (fun c_30 => ?_)
                            · refine lv_iload hx hb dR_teeth_157 (lv_at hl 2 rfl) ?_
                              refine lv_iload hx hb dR_teeth_159 (lv_at hl 10 rfl) ?_
                              refine lv_iadd hx hb dR_teeth_161 ?_
                              refine lv_istore (lv' := [(9, .int (wi + stp)), (8, .int n2), (10, .int wj), (7, .int 1), (0, .ref h0), (1, .int m1), (2, .int x), (3, .int y), (4, .int w), (5, .int h), (6, .int stp)]) hx hb dR_teeth_162 hl (by decide) rfl (fun ls hl => ?_)
                              refine lv_goto (tgt := 94) hx hb dR_teeth_164 (by decide) ?_
                              have v_inv : xl_t n_94 (wi + stp) := xl_ts hinv_94 c_29 c_11 c_21
                              have v_0 : gR_teeth ef wf mb m1 x y w h stp = kR_teeth_94k_0 ef wf mb m1 x y w h stp n_94 n2 (wi + stp) := hres_111_0.trans ((if_pos c_30).trans (rfl))
                              have v_1 : gR_teeth_0 ef wf mb m1 x y w h stp = kR_teeth_94k_1 ef wf mb m1 x y w h stp n_94 n2 (wi + stp) := hres_111_1.trans ((if_pos c_30).trans (rfl))
                              exact ih_94 n2 (wi + stp) v_inv v_0 v_1 _ _ (hP.sub (ws' := [(h0, .inr (3, [.int 0, .ref ta, .int zs, .int po, .int fa, .ref da, .ref ra, .ref la, .long we, .long le, .int pk, .int pm, .int co, .ref pa, .int pl, .ref xa, .ref ya, .int mb, .ref ea, .ref wa])), (ea, .inl (cI, 24, .inl ef)), (wa, .inl (cI, 6, .inl wf))]) [0, 1, 2] rfl) (hD.sub (ws' := [(h0, .inr (3, [.int 0, .ref ta, .int zs, .int po, .int fa, .ref da, .ref ra, .ref la, .long we, .long le, .int pk, .int pm, .int co, .ref pa, .int pl, .ref xa, .ref ya, .int mb, .ref ea, .ref wa])), (ea, .inl (cI, 24, .inl ef)), (wa, .inl (cI, 6, .inl wf))]) [0, 1, 2] (by decide) rfl) hS ls (lv_sub hl [1, 0, 3, 4, 5, 6, 7, 8, 9, 10] rfl)
                            · refine lv_aload_n hx hb dR_teeth_118 rfl (lv_at hl 4 rfl) ?_
                              refine lv_iload_n hx hb dR_teeth_119 rfl (lv_at hl 5 rfl) ?_
                              refine lv_iload_n hx hb dR_teeth_120 rfl (lv_at hl 6 rfl) ?_
                              refine lv_iload hx hb dR_teeth_121 (lv_at hl 2 rfl) ?_
                              refine lv_iadd hx hb dR_teeth_123 ?_
                              refine lv_i2l hx hb dR_teeth_124 rfl ?_
                              refine lv_iload_n hx hb dR_teeth_125 rfl (lv_at hl 7 rfl) ?_
                              refine lv_iload hx hb dR_teeth_126 (lv_at hl 1 rfl) ?_
                              refine lv_iadd hx hb dR_teeth_128 ?_
                              refine lv_i2l hx hb dR_teeth_129 rfl ?_
                              refine xb_rd (W.runV (C := "NailRulesModel") (As := [.int m1, .long ((x + wi).toInt64), .long ((y + wj).toInt64)]) (rest := []) ⟨hx, hb, hml, hown, hts⟩ (cR_isWithin l E h0 ([.int 0, .ref ta, .int zs, .int po, .int fa, .ref da, .ref ra, .ref la, .long we, .long le, .int pk, .int pm, .int co, .ref pa, .int pl, .ref xa, .ref ya, .int mb, .ref ea, .ref wa]) ea ef wa wf m1 ((x + wi).toInt64) ((y + wj).toInt64) rfl rfl ((xp_mems c_26 m6).1) ((xp_mems c_26 m6).2.1) ((xp_mems c_26 m6).2.2.1) ((xp_mems c_26 m6).2.2.2.1) ((xp_mems c_26 m6).2.2.2.2)) (cwV 3 hts (xb_gi (List.forall_mem_cons.mpr ⟨xk_832, List.forall_mem_cons.mpr ⟨xk_834, List.forall_mem_cons.mpr ⟨xk_38, List.forall_mem_cons.mpr ⟨xk_45, List.forall_mem_cons.mpr ⟨xk_835, fun _ h => absurd h List.not_mem_nil⟩⟩⟩⟩⟩)) rfl rfl rfl (by decide +kernel) ⟨Nat.le_of_ble_eq_true rfl, Nat.le_of_ble_eq_true rfl⟩) ⟨fun _ _ _ _ q => q, va_recv hK hP (ci := 3) (q0 := 0) rfl rfl, fun U hU hW => ⟨rfl, xb_atS hAt hS hA0 hU hW, by rw [hU]; exact hP.sub (ws' := [(h0, .inr (3, [.int 0, .ref ta, .int zs, .int po, .int fa, .ref da, .ref ra, .ref la, .long we, .long le, .int pk, .int pm, .int co, .ref pa, .int pl, .ref xa, .ref ya, .int mb, .ref ea, .ref wa])), (ea, .inl (cI, 24, .inl ef)), (wa, .inl (cI, 6, .inl wf))]) [0, 1, 2] rfl⟩⟩ rfl rfl hl.1 rfl (lv_room (Nat.le_of_ble_eq_true rfl)) dR_teeth_130 ⟨Nat.zero_le _, Nat.zero_le _⟩) ?_
                              refine lv_if_eq (tgt := 143) hx hb dR_teeth_133 (by decide) (fun c_32 => ?_) (fun c_32 => ?_)
                              · have c_32 := xb_bi_f.mp c_32
                                refine lv_iload hx hb dR_teeth_143 (lv_at hl 0 rfl) ?_
                                refine lv_istore (lv' := [(8, .int n2), (10, .int wj), (9, .int wi), (7, .int 1), (0, .ref h0), (1, .int m1), (2, .int x), (3, .int y), (4, .int w), (5, .int h), (6, .int stp)]) hx hb dR_teeth_145 hl (by decide) rfl (fun ls hl => ?_)
                                refine lv_iload hx hb dR_teeth_147 (lv_at hl 1 rfl) ?_
                                refine lv_iload hx hb dR_teeth_149 (lv_at hl 10 rfl) ?_
                                refine lv_iadd hx hb dR_teeth_151 ?_
                                refine lv_istore (lv' := [(10, .int (wj + stp)), (8, .int n2), (9, .int wi), (7, .int 1), (0, .ref h0), (1, .int m1), (2, .int x), (3, .int y), (4, .int w), (5, .int h), (6, .int stp)]) hx hb dR_teeth_152 hl (by decide) rfl (fun ls hl => ?_)
                                refine lv_goto (tgt := 111) hx hb dR_teeth_154 (by decide) ?_
                                have v_inv : xl_t n_111 (wj + stp) := xl_ts hinv_111 c_30 c_16 c_21
                                have v_0 : gR_teeth ef wf mb m1 x y w h stp = kR_teeth_111a_0 ef wf mb m1 x y w h stp nn wi (fun nn wi => kR_teeth_94k_0 ef wf mb m1 x y w h stp n_94 nn wi) n_111 n2 (wj + stp) := hres_111_0.trans ((if_neg c_30).trans ((if_neg c_32).trans (rfl)))
                                have v_1 : gR_teeth_0 ef wf mb m1 x y w h stp = kR_teeth_111a_1 ef wf mb m1 x y w h stp nn wi (fun nn wi => kR_teeth_94k_1 ef wf mb m1 x y w h stp n_94 nn wi) n_111 n2 (wj + stp) := hres_111_1.trans ((if_neg c_30).trans ((if_neg c_32).trans (rfl)))
                                exact ih_111 n2 (wj + stp) v_inv v_0 v_1 _ _ (hP.sub (ws' := [(h0, .inr (3, [.int 0, .ref ta, .int zs, .int po, .int fa, .ref da, .ref ra, .ref la, .long we, .long le, .int pk, .int pm, .int co, .ref pa, .int pl, .ref xa, .ref ya, .int mb, .ref ea, .ref wa])), (ea, .inl (cI, 24, .inl ef)), (wa, .inl (cI, 6, .inl wf))]) [0, 1, 2] rfl) (hD.sub (ws' := [(h0, .inr (3, [.int 0, .ref ta, .int zs, .int po, .int fa, .ref da, .ref ra, .ref la, .long we, .long le, .int pk, .int pm, .int co, .ref pa, .int pl, .ref xa, .ref ya, .int mb, .ref ea, .ref wa])), (ea, .inl (cI, 24, .inl ef)), (wa, .inl (cI, 6, .inl wf))]) [0, 1, 2] (by decide) rfl) hS ls (lv_sub hl [1, 0, 2, 3, 4, 5, 6, 7, 8, 9, 10] rfl)
                              · have c_32 := xb_bi_t.mp c_32
                                refine lv_iload hx hb dR_teeth_136 (lv_at hl 0 rfl) ?_
                                refine lv_iconst (v := 1) hx hb dR_teeth_138 (by decide) ?_
                                refine lv_iadd hx hb dR_teeth_139 ?_
                                refine lv_goto (tgt := 145) hx hb dR_teeth_140 (by decide) ?_
                                refine lv_istore (lv' := [(8, .int (n2 + 1)), (10, .int wj), (9, .int wi), (7, .int 1), (0, .ref h0), (1, .int m1), (2, .int x), (3, .int y), (4, .int w), (5, .int h), (6, .int stp)]) hx hb dR_teeth_145 hl (by decide) rfl (fun ls hl => ?_)
                                refine lv_iload hx hb dR_teeth_147 (lv_at hl 1 rfl) ?_
                                refine lv_iload hx hb dR_teeth_149 (lv_at hl 10 rfl) ?_
                                refine lv_iadd hx hb dR_teeth_151 ?_
                                refine lv_istore (lv' := [(10, .int (wj + stp)), (8, .int (n2 + 1)), (9, .int wi), (7, .int 1), (0, .ref h0), (1, .int m1), (2, .int x), (3, .int y), (4, .int w), (5, .int h), (6, .int stp)]) hx hb dR_teeth_152 hl (by decide) rfl (fun ls hl => ?_)
                                refine lv_goto (tgt := 111) hx hb dR_teeth_154 (by decide) ?_
                                have v_inv : xl_t n_111 (wj + stp) := xl_ts hinv_111 c_30 c_16 c_21
                                have v_0 : gR_teeth ef wf mb m1 x y w h stp = kR_teeth_111a_0 ef wf mb m1 x y w h stp nn wi (fun nn wi => kR_teeth_94k_0 ef wf mb m1 x y w h stp n_94 nn wi) n_111 (n2 + 1) (wj + stp) := hres_111_0.trans ((if_neg c_30).trans ((if_pos c_32).trans (rfl)))
                                have v_1 : gR_teeth_0 ef wf mb m1 x y w h stp = kR_teeth_111a_1 ef wf mb m1 x y w h stp nn wi (fun nn wi => kR_teeth_94k_1 ef wf mb m1 x y w h stp n_94 nn wi) n_111 (n2 + 1) (wj + stp) := hres_111_1.trans ((if_neg c_30).trans ((if_pos c_32).trans (rfl)))
                                exact ih_111 (n2 + 1) (wj + stp) v_inv v_0 v_1 _ _ (hP.sub (ws' := [(h0, .inr (3, [.int 0, .ref ta, .int zs, .int po, .int fa, .ref da, .ref ra, .ref la, .long we, .long le, .int pk, .int pm, .int co, .ref pa, .int pl, .ref xa, .ref ya, .int mb, .ref ea, .ref wa])), (ea, .inl (cI, 24, .inl ef)), (wa, .inl (cI, 6, .inl wf))]) [0, 1, 2] rfl) (hD.sub (ws' := [(h0, .inr (3, [.int 0, .ref ta, .int zs, .int po, .int fa, .ref da, .ref ra, .ref la, .long we, .long le, .int pk, .int pm, .int co, .ref pa, .int pl, .ref xa, .ref ya, .int mb, .ref ea, .ref wa])), (ea, .inl (cI, 24, .inl ef)), (wa, .inl (cI, 6, .inl wf))]) [0, 1, 2] (by decide) rfl) hS ls (lv_sub hl [1, 0, 2, 3, 4, 5, 6, 7, 8, 9, 10] rfl)
                        have v_inv : xl_t 201 (0 : Int32) := ⟨0, rfl, by omega, by omega⟩
                        have v_0 : gR_teeth ef wf mb m1 x y w h stp = kR_teeth_111a_0 ef wf mb m1 x y w h stp nn wi (fun nn wi => kR_teeth_94k_0 ef wf mb m1 x y w h stp n_94 nn wi) 201 nn (0) := hres_94_0.trans ((if_neg c_29).trans (rfl))
                        have v_1 : gR_teeth_0 ef wf mb m1 x y w h stp = kR_teeth_111a_1 ef wf mb m1 x y w h stp nn wi (fun nn wi => kR_teeth_94k_1 ef wf mb m1 x y w h stp n_94 nn wi) 201 nn (0) := hres_94_1.trans ((if_neg c_29).trans (rfl))
                        exact lp_111 201 nn (0) v_inv v_0 v_1 _ _ (hP.sub (ws' := [(h0, .inr (3, [.int 0, .ref ta, .int zs, .int po, .int fa, .ref da, .ref ra, .ref la, .long we, .long le, .int pk, .int pm, .int co, .ref pa, .int pl, .ref xa, .ref ya, .int mb, .ref ea, .ref wa])), (ea, .inl (cI, 24, .inl ef)), (wa, .inl (cI, 6, .inl wf))]) [0, 1, 2] rfl) (hD.sub (ws' := [(h0, .inr (3, [.int 0, .ref ta, .int zs, .int po, .int fa, .ref da, .ref ra, .ref la, .long we, .long le, .int pk, .int pm, .int co, .ref pa, .int pl, .ref xa, .ref ya, .int mb, .ref ea, .ref wa])), (ea, .inl (cI, 24, .inl ef)), (wa, .inl (cI, 6, .inl wf))]) [0, 1, 2] (by decide) rfl) hS ls (lv_sub hl [1, 0, 2, 3, 4, 5, 6, 7, 8, 9, 10] rfl)
                have v_inv : xl_t 201 (0 : Int32) := ⟨0, rfl, by omega, by omega⟩
                have v_0 : gR_teeth ef wf mb m1 x y w h stp = kR_teeth_94k_0 ef wf mb m1 x y w h stp 201 (0) (0) := (if_pos c_1).trans ((if_pos c_6).trans ((if_pos c_11).trans ((if_pos c_16).trans ((if_pos c_21).trans ((if_neg c_26).trans (rfl))))))
                have v_1 : gR_teeth_0 ef wf mb m1 x y w h stp = kR_teeth_94k_1 ef wf mb m1 x y w h stp 201 (0) (0) := (if_pos c_1).trans ((if_pos c_6).trans ((if_pos c_11).trans ((if_pos c_16).trans ((if_pos c_21).trans ((if_neg c_26).trans (rfl))))))
                exact lp_94 201 (0) (0) v_inv v_0 v_1 _ _ (hP.sub (ws' := [(h0, .inr (3, [.int 0, .ref ta, .int zs, .int po, .int fa, .ref da, .ref ra, .ref la, .long we, .long le, .int pk, .int pm, .int co, .ref pa, .int pl, .ref xa, .ref ya, .int mb, .ref ea, .ref wa])), (ea, .inl (cI, 24, .inl ef)), (wa, .inl (cI, 6, .inl wf))]) [0, 1, 2] rfl) (hD.sub (ws' := [(h0, .inr (3, [.int 0, .ref ta, .int zs, .int po, .int fa, .ref da, .ref ra, .ref la, .long we, .long le, .int pk, .int pm, .int co, .ref pa, .int pl, .ref xa, .ref ya, .int mb, .ref ea, .ref wa])), (ea, .inl (cI, 24, .inl ef)), (wa, .inl (cI, 6, .inl wf))]) [0, 1, 2] (by decide) rfl) hS ls (lv_sub hl [1, 0, 2, 3, 4, 5, 6, 7, 8, 9] rfl)
            · have c_26 := xb_bi_t.mp c_26
              refine lv_iconst (v := 1) hx hb dR_teeth_71 (by decide) ?_
              refine lv_goto (tgt := 85) hx hb dR_teeth_72 (by decide) ?_
              refine va_put (D := (dC, dI)) (ci := 3) (v := .int 1) (ty := .int) (C := xR_R) (T := xF_R) (N := 20) hx hb hts xi_R xt_R xt_R_ok xn_R hown hK hP hD hS 0 rfl rfl 0 (by decide) (hts _ xk_646) (fun _ h9 => h9) rfl (by decide +kernel) rfl rfl (Nat.le_of_ble_eq_true rfl) dR_teeth_85 (fun H locs hP hD hS => ?_)
              have hP : va_P (dC, dI) classes [(h0, .inr (3, [.int 1, .ref ta, .int zs, .int po, .int fa, .ref da, .ref ra, .ref la, .long we, .long le, .int pk, .int pm, .int co, .ref pa, .int pl, .ref xa, .ref ya, .int mb, .ref ea, .ref wa])), (ea, .inl (cI, 24, .inl ef)), (wa, .inl (cI, 6, .inl wf))] H := hP
              have hD : va_D A [(h0, .inr (3, [.int 1, .ref ta, .int zs, .int po, .int fa, .ref da, .ref ra, .ref la, .long we, .long le, .int pk, .int pm, .int co, .ref pa, .int pl, .ref xa, .ref ya, .int mb, .ref ea, .ref wa])), (ea, .inl (cI, 24, .inl ef)), (wa, .inl (cI, 6, .inl wf))] := hD
              refine lv_iconst (v := 0) hx hb dR_teeth_88 (by decide) ?_
              refine lv_istore (lv' := [(8, .int 0), (7, .int 1), (0, .ref h0), (1, .int m1), (2, .int x), (3, .int y), (4, .int w), (5, .int h), (6, .int stp)]) hx hb dR_teeth_89 hl (by decide) rfl (fun ls hl => ?_)
              refine lv_iconst (v := 0) hx hb dR_teeth_91 (by decide) ?_
              refine lv_istore (lv' := [(9, .int 0), (8, .int 0), (7, .int 1), (0, .ref h0), (1, .int m1), (2, .int x), (3, .int y), (4, .int w), (5, .int h), (6, .int stp)]) hx hb dR_teeth_92 hl (by decide) rfl (fun ls hl => ?_)
              have lp_94 : ∀ (n_94 : Nat) (nn : Int32) (wi : Int32), (xl_t n_94 wi) → gR_teeth ef wf mb m1 x y w h stp = kR_teeth_94l_0 ef wf mb m1 x y w h stp n_94 nn wi → gR_teeth_0 ef wf mb m1 x y w h stp = kR_teeth_94l_1 ef wf mb m1 x y w h stp n_94 nn wi → ∀ (H : Heap) (locs : List Loc), va_P (dC, dI) classes [(h0, .inr (3, [.int 1, .ref ta, .int zs, .int po, .int fa, .ref da, .ref ra, .ref la, .long we, .long le, .int pk, .int pm, .int co, .ref pa, .int pl, .ref xa, .ref ya, .int mb, .ref ea, .ref wa])), (ea, .inl (cI, 24, .inl ef)), (wa, .inl (cI, 6, .inl wf))] H → va_D A [(h0, .inr (3, [.int 1, .ref ta, .int zs, .int po, .int fa, .ref da, .ref ra, .ref la, .long we, .long le, .int pk, .int pm, .int co, .ref pa, .int pl, .ref xa, .ref ya, .int mb, .ref ea, .ref wa])), (ea, .inl (cI, 24, .inl ef)), (wa, .inl (cI, 6, .inl wf))] → va_S A s.heap H locs → ∀ ls : Array Slot, lv_has ls 11 [(8, .int nn), (9, .int wi), (7, .int 1), (0, .ref h0), (1, .int m1), (2, .int x), (3, .int y), (4, .int w), (5, .int h), (6, .int stp)] → W p l e (headSpec [.code yR_teeth bR_teeth 11 (some (.int))] ({ frames := 2, cells := 0, slots := 0, locals := 45 })).room s m ([.ref h0, .int m1, .int x, .int y, .int w, .int h, .int stp] : List Value).toArray below meth c H locs 0 0 (MQ below (xb_W (dC, dI) (fun v9 w9 => v9 = some (.int (gR_teeth ef wf mb m1 x y w h stp)) ∧ w9 = [(h0, .inr (3, [.int (gR_teeth_0 ef wf mb m1 x y w h stp), .ref ta, .int zs, .int po, .int fa, .ref da, .ref ra, .ref la, .long we, .long le, .int pk, .int pm, .int co, .ref pa, .int pl, .ref xa, .ref ya, .int mb, .ref ea, .ref wa])), (ea, .inl (cI, 24, .inl ef)), (wa, .inl (cI, 6, .inl wf))]) A) ([.ref h0, .int m1, .int x, .int y, .int w, .int h, .int stp] : List Value).toArray s 0 0 A) (F0 m 94 ls []) := by
                intro n_94
                induction n_94 with
                | zero =>
                  intro nn wi hinv_94
                  exact xl_t0 hinv_94
                | succ n_94 ih_94 =>
                  intro nn wi hinv_94 hres_94_0 hres_94_1 H locs hP hD hS ls hl
                  refine lv_aload_n hx hb dR_teeth_94 rfl (lv_at hl 3 rfl) ?_
                  refine va_get (D := (dC, dI)) (ci := 3) (v := .int 1) (C := xR_R) (T := xF_R) (N := 20) hx hb hts xi_R hown hK hP 0 rfl rfl 0 (by decide) (hts _ xk_646) (fun _ h9 => h9) rfl dR_teeth_95 ?_
                  refine lv_if_ne (tgt := 167) hx hb dR_teeth_98 (by decide) (fun c_36 => ?_) (fun c_36 => ?_)
                  · refine lv_iload hx hb dR_teeth_167 (lv_at hl 0 rfl) ?_
                    have e_0 : gR_teeth ef wf mb m1 x y w h stp = nn := hres_94_0.trans (rfl)
                    have e_1 : gR_teeth_0 ef wf mb m1 x y w h stp = (1 : Int32) := hres_94_1.trans (rfl)
                    have hP9 := hP.sub (ws' := [(h0, .inr (3, [.int 1, .ref ta, .int zs, .int po, .int fa, .ref da, .ref ra, .ref la, .long we, .long le, .int pk, .int pm, .int co, .ref pa, .int pl, .ref xa, .ref ya, .int mb, .ref ea, .ref wa])), (ea, .inl (cI, 24, .inl ef)), (wa, .inl (cI, 6, .inl wf))]) [0, 1, 2] rfl
                    have hD9 := hD.sub (ws' := [(h0, .inr (3, [.int 1, .ref ta, .int zs, .int po, .int fa, .ref da, .ref ra, .ref la, .long we, .long le, .int pk, .int pm, .int co, .ref pa, .int pl, .ref xa, .ref ya, .int mb, .ref ea, .ref wa])), (ea, .inl (cI, 24, .inl ef)), (wa, .inl (cI, 6, .inl wf))]) [0, 1, 2] (by decide) rfl
                    exact W.iret (v := nn) hx hb hr (fun t ht hW => ⟨_, _, rfl, ⟨by first | rfl | (simp only [e_0, e_1]; try rfl), by first | rfl | (simp only [e_0, e_1]; try rfl)⟩, by rw [ht]; exact hP9, hD9, hS.F ht⟩) hS.2.2 dR_teeth_169
                  · exact absurd c_36 (by decide)
              have v_inv : xl_t 201 (0 : Int32) := ⟨0, rfl, by omega, by omega⟩
              have v_0 : gR_teeth ef wf mb m1 x y w h stp = kR_teeth_94l_0 ef wf mb m1 x y w h stp 201 (0) (0) := (if_pos c_1).trans ((if_pos c_6).trans ((if_pos c_11).trans ((if_pos c_16).trans ((if_pos c_21).trans ((if_pos c_26).trans (rfl))))))
              have v_1 : gR_teeth_0 ef wf mb m1 x y w h stp = kR_teeth_94l_1 ef wf mb m1 x y w h stp 201 (0) (0) := (if_pos c_1).trans ((if_pos c_6).trans ((if_pos c_11).trans ((if_pos c_16).trans ((if_pos c_21).trans ((if_pos c_26).trans (rfl))))))
              exact lp_94 201 (0) (0) v_inv v_0 v_1 _ _ (hP.sub (ws' := [(h0, .inr (3, [.int 1, .ref ta, .int zs, .int po, .int fa, .ref da, .ref ra, .ref la, .long we, .long le, .int pk, .int pm, .int co, .ref pa, .int pl, .ref xa, .ref ya, .int mb, .ref ea, .ref wa])), (ea, .inl (cI, 24, .inl ef)), (wa, .inl (cI, 6, .inl wf))]) [0, 1, 2] rfl) (hD.sub (ws' := [(h0, .inr (3, [.int 1, .ref ta, .int zs, .int po, .int fa, .ref da, .ref ra, .ref la, .long we, .long le, .int pk, .int pm, .int co, .ref pa, .int pl, .ref xa, .ref ya, .int mb, .ref ea, .ref wa])), (ea, .inl (cI, 24, .inl ef)), (wa, .inl (cI, 6, .inl wf))]) [0, 1, 2] (by decide) rfl) hS ls (lv_sub hl [1, 0, 2, 3, 4, 5, 6, 7, 8, 9] rfl)
