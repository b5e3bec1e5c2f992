/-! the law's own world: cells beside it; its state -/
/-- cells beside a world: they hold, lie in A, and are none of its own -/
def xtl_T (D : va_G) (A : Nat → Prop) (ws tl : va_W) (H : Heap) : Prop := va_P D classes tl H ∧ va_D A tl ∧ ∀ (i j : Nat) (p q : Nat × va_E), ws[i]? = some p → tl[j]? = some q → p.1 ≠ q.1
theorem xb_pick {ws wc : va_W} {isC : List Nat} (hC : isC.map (fun i : Nat => ws[i]?) = wc.map some) {k : Nat} {x : Nat × va_E} (h : wc[k]? = some x) : ∃ i : Nat, ws[i]? = some x := by
  have h1 : (wc.map some)[k]? = some (some x) := by rw [List.getElem?_map, h]; rfl
  rw [← hC, List.getElem?_map] at h1
  cases hk : isC[k]? with
  | none => rw [hk] at h1; cases h1
  | some i =>
    rw [hk] at h1
    exact ⟨i, Option.some.inj h1⟩
section XT
variable {p : Program} {l : Launch} {e : Env} {R : Room} {s : State} {m : MethodId} {args : Array Value} {below : List Frame} {meth : Method} {c : Code} {H : Heap} {locs : List Loc} {cells slots : Nat} {Q : State → Prop} {pc : Nat} {ls : Array Slot} {rest st0 : List Value} {a : Array Value} {mc ms : Nat} {D : va_G} {A : Nat → Prop} {H0 : Heap}
theorem xb_wrT {P : Option Value → va_W → Prop} {ws wc wr tl : va_W} (hr : va_Run p l e R s m args below meth c H locs cells slots mc ms (F0 m pc ls st0) rest (xb_W D P (va_A wc H.size) a) (va_A wc H.size))
    (hP : va_P D classes ws H) (hD : va_D A ws) (hS : va_S A H0 H locs) (hA : ∀ q, H0.size ≤ q → A q) (isC isR : List Nat) (hC : isC.map (fun i => ws[i]?) = wc.map some) (hR : isR.map (fun i => ws[i]?) = wr.map some) (hn : va_nd isR = true) (hdis : ∀ i ∈ isR, i ∉ isC) (hT : xtl_T D A ws tl H)
    (kk : ∀ (v : Option Value) (w1 : va_W) (H1 : Heap) (locs1 : List Loc), P v w1 → va_P D classes (wr ++ w1) H1 → va_D A (wr ++ w1) → va_S A H0 H1 locs1 → xtl_T D A (wr ++ w1) tl H1 → W p l e R s m args below meth c H1 locs1 (cells + mc) (slots + ms) Q (F0 m (pc + 3) ls (v.toList ++ rest))) : W p l e R s m args below meth c H locs cells slots Q (F0 m pc ls st0) := by
  have hF := va_free hD hS hA isC hC
  intro T hT' X
  obtain ⟨v, st₀, t, T', L, h0, X', hL, e1, e2, ⟨v', w1, hv, hp, hP1, hD1, hz, hk⟩, st⟩ := hr T hT' X
  cases hv
  rw [h0] at hz hk
  rw [← e1] at hP1 hz hk
  obtain ⟨hPj, hDj⟩ := va_join hP hD isC isR hC hR hn hdis hk hF hP1 hD1
  have hout : ∀ (j : Nat) (q : Nat × va_E), tl[j]? = some q → ¬ va_A wc H.size q.1 := by
    intro j q hq hz2
    rcases hz2 with ⟨k, e0, hk0⟩ | hz2
    · obtain ⟨i, hi⟩ := xb_pick hC hk0
      exact hT.2.2 i j _ _ hi hq rfl
    · exact absurd ((hT.1 j q hq).lt) (Nat.not_lt.mpr hz2)
  have hT1 : xtl_T D A (wr ++ w1) tl T'.heap := by
    refine ⟨hT.1.kept (fun k q hq => hk q.1 ((hT.1 k q hq).lt) (hout k q hq)), hT.2.1, fun i j p q hi hj => ?_⟩
    by_cases hl : i < wr.length
    · rw [List.getElem?_append_left hl] at hi
      obtain ⟨i', hi'⟩ := xb_pick hR hi
      exact hT.2.2 i' j p q hi' hj
    · rw [List.getElem?_append_right (Nat.not_lt.mp hl)] at hi
      intro e0
      have h3 := hD1.2 _ _ hi
      rw [e0] at h3
      exact hout j q hj h3
  obtain ⟨t2, a1, b1⟩ := kk v w1 T'.heap (locs ++ L) hp hPj hDj ⟨Nat.le_trans hS.1 hz, fun q h1 h2 => by
      rw [hk q (Nat.lt_of_lt_of_le h1 hS.1) (fun z => h2 (hF q z))]; exact hS.2.1 q h1 h2, fun q hq => by
      rcases List.mem_append.mp hq with h | h
      · exact hS.2.2 q h
      · exact hF _ (hL q h)⟩ hT1 T' rfl X'
  exact ⟨t2, st t2 a1, b1⟩
end XT
/-! worlds as sets of cells -/
theorem xz_D {A : Nat → Prop} {ws : va_W} : va_D A ws ↔ (ws.map Prod.fst).Nodup ∧ ∀ x ∈ ws, A x.1 := by
  constructor
  · intro ⟨h1, h2⟩
    refine ⟨?_, fun x hx => ?_⟩
    · rw [List.Nodup, List.pairwise_map, List.pairwise_iff_getElem]
      intro i j hi hj hij he
      exact absurd (h1 i j _ _ (List.getElem?_eq_getElem hi) (List.getElem?_eq_getElem hj) he) (Nat.ne_of_lt hij)
    · obtain ⟨k, hk⟩ := List.getElem?_of_mem hx
      exact h2 k x hk
  · intro ⟨h1, h2⟩
    refine ⟨fun i j p q hi hj he => ?_, fun k q hk => h2 q (List.mem_of_getElem? hk)⟩
    rw [List.Nodup, List.pairwise_map, List.pairwise_iff_getElem] at h1
    obtain ⟨hi', rfl⟩ := List.getElem?_eq_some_iff.mp hi
    obtain ⟨hj', rfl⟩ := List.getElem?_eq_some_iff.mp hj
    rcases Nat.lt_trichotomy i j with h | h | h
    · exact absurd he (h1 i j hi' hj' h)
    · exact h
    · exact absurd he.symm (h1 j i hj' hi' h)
theorem xz_P {D : va_G} {ws : va_W} {H : Heap} : va_P D classes ws H ↔ ∀ x ∈ ws, va_at D classes x H :=
  ⟨fun h x hx => by obtain ⟨k, hk⟩ := List.getElem?_of_mem hx; exact h k x hk, fun h k q hk => h q (List.mem_of_getElem? hk)⟩
theorem xz_T {D : va_G} {A : Nat → Prop} {ws tl : va_W} {H : Heap} : xtl_T D A ws tl H ↔ va_P D classes tl H ∧ va_D A tl ∧ ∀ x ∈ ws, ∀ y ∈ tl, x.1 ≠ y.1 := by
  constructor
  · intro ⟨h1, h2, h3⟩
    refine ⟨h1, h2, fun x hx y hy => ?_⟩
    obtain ⟨i, hi⟩ := List.getElem?_of_mem hx
    obtain ⟨j, hj⟩ := List.getElem?_of_mem hy
    exact h3 i j x y hi hj
  · intro ⟨h1, h2, h3⟩
    exact ⟨h1, h2, fun i j p q hi hj => h3 p (List.mem_of_getElem? hi) q (List.mem_of_getElem? hj)⟩
theorem xz_all {D : va_G} {A : Nat → Prop} {ws tl : va_W} {H : Heap} : (va_P D classes ws H ∧ va_D A ws ∧ xtl_T D A ws tl H) ↔ (va_P D classes (ws ++ tl) H ∧ va_D A (ws ++ tl)) := by
  rw [xz_T, xz_P, xz_P, xz_P, xz_D, xz_D, xz_D, List.map_append, List.nodup_append]
  constructor
  · rintro ⟨h1, ⟨h2, h3⟩, h4, ⟨h5, h6⟩, h7⟩
    refine ⟨fun x hx => ?_, ⟨h2, h5, ?_⟩, fun x hx => ?_⟩
    · rcases List.mem_append.mp hx with h | h
      · exact h1 x h
      · exact h4 x h
    · intro a ha b hb e
      obtain ⟨x, hx, rfl⟩ := List.mem_map.mp ha
      obtain ⟨y, hy, rfl⟩ := List.mem_map.mp hb
      exact h7 x hx y hy e
    · rcases List.mem_append.mp hx with h | h
      · exact h3 x h
      · exact h6 x h
  · rintro ⟨h1, ⟨h2, h3, h4⟩, h5⟩
    exact ⟨fun x hx => h1 x (List.mem_append_left _ hx), ⟨h2, fun x hx => h5 x (List.mem_append_left _ hx)⟩, fun x hx => h1 x (List.mem_append_right _ hx), ⟨h3, fun x hx => h5 x (List.mem_append_right _ hx)⟩, fun x hx y hy => h4 _ (List.mem_map.mpr ⟨x, hx, rfl⟩) _ (List.mem_map.mpr ⟨y, hy, rfl⟩)⟩
theorem xz_perm {D : va_G} {A : Nat → Prop} {ws ws' : va_W} {H : Heap} (hp : ws.Perm ws') (h : va_P D classes ws H ∧ va_D A ws) : va_P D classes ws' H ∧ va_D A ws' := by
  rw [xz_P, xz_D] at h ⊢
  exact ⟨fun x hx => h.1 x (hp.mem_iff.mpr hx), (hp.map _).nodup_iff.mp h.2.1, fun x hx => h.2.2 x (hp.mem_iff.mpr hx)⟩
theorem xz_split {D : va_G} {A : Nat → Prop} {ws tl pk rs : va_W} {H : Heap} (hP : va_P D classes ws H) (hD : va_D A ws) (hT : xtl_T D A ws tl H) (hp : tl.Perm (pk ++ rs)) : va_P D classes (ws ++ pk) H ∧ va_D A (ws ++ pk) ∧ xtl_T D A (ws ++ pk) rs H := by
  have h := xz_all.mp ⟨hP, hD, hT⟩
  refine xz_all.mpr (xz_perm ?_ h)
  rw [List.append_assoc]
  exact hp.append_left ws
theorem xz_join {D : va_G} {A : Nat → Prop} {ws tl pk rs : va_W} {H : Heap} (hP : va_P D classes (ws ++ pk) H) (hD : va_D A (ws ++ pk)) (hT : xtl_T D A (ws ++ pk) rs H) (hp : (pk ++ rs).Perm tl) : va_P D classes ws H ∧ va_D A ws ∧ xtl_T D A ws tl H := by
  have h := xz_all.mp ⟨hP, hD, hT⟩
  refine xz_all.mpr (xz_perm ?_ h)
  rw [List.append_assoc]
  exact hp.append_left ws
/-- addresses -/
abbrev XQ : Type := (Nat × Nat × Nat × Nat × Nat × Nat × Nat × Nat × Nat) × (Nat × Nat × Nat × Nat × Nat × Nat × Nat × Nat × Nat × Nat × Nat)
abbrev XQ.n (Q : XQ) : Nat := Q.1.1
abbrev XQ.t (Q : XQ) : Nat := Q.1.2.1
abbrev XQ.u (Q : XQ) : Nat := Q.1.2.2.1
abbrev XQ.r (Q : XQ) : Nat := Q.1.2.2.2.1
abbrev XQ.px (Q : XQ) : Nat := Q.1.2.2.2.2.1
abbrev XQ.py (Q : XQ) : Nat := Q.1.2.2.2.2.2.1
abbrev XQ.qx (Q : XQ) : Nat := Q.1.2.2.2.2.2.2.1
abbrev XQ.qy (Q : XQ) : Nat := Q.1.2.2.2.2.2.2.2.1
abbrev XQ.l (Q : XQ) : Nat := Q.1.2.2.2.2.2.2.2.2
abbrev XQ.m (Q : XQ) : Nat := Q.2.1
abbrev XQ.ta (Q : XQ) : Nat := Q.2.2.1
abbrev XQ.da (Q : XQ) : Nat := Q.2.2.2.1
abbrev XQ.ru (Q : XQ) : Nat := Q.2.2.2.2.1
abbrev XQ.la (Q : XQ) : Nat := Q.2.2.2.2.2.1
abbrev XQ.pa (Q : XQ) : Nat := Q.2.2.2.2.2.2.1
abbrev XQ.xa (Q : XQ) : Nat := Q.2.2.2.2.2.2.2.1
abbrev XQ.ya (Q : XQ) : Nat := Q.2.2.2.2.2.2.2.2.1
abbrev XQ.ea (Q : XQ) : Nat := Q.2.2.2.2.2.2.2.2.2.1
abbrev XQ.wa (Q : XQ) : Nat := Q.2.2.2.2.2.2.2.2.2.2.1
abbrev XQ.o (Q : XQ) : Nat := Q.2.2.2.2.2.2.2.2.2.2.2
/-- contents: the class's, the reference's, the law's -/
abbrev XV : Type := ((Nat → Int32) × (Nat → Int32) × (Nat → Int32) × (Nat → Int32) × (Nat → Int32) × (Nat → Int32)) × (Int32 × Int32 × Int32 × Int32 × Int32 × Int32 × Int32 × Int32) × (Nat × Nat × (Nat → Option Nat) × (Nat → Nat)) × ((Nat → Int32) × (Nat → Int32) × (Nat → Int32) × (Nat → Int32) × (Nat → Int32) × (Nat → Int32) × (Nat → Int32) × (Nat → Int32) × (Nat → Int32)) × (Int32 × Int32 × Int32 × Int32 × Int32 × Int32 × Int32 × Int32 × Int32) × (Int64 × Int64 × (Nat → Int64))
abbrev XV.uf (v : XV) : Nat → Int32 := v.1.1
abbrev XV.rf (v : XV) : Nat → Int32 := v.1.2.1
abbrev XV.xf (v : XV) : Nat → Int32 := v.1.2.2.1
abbrev XV.yf (v : XV) : Nat → Int32 := v.1.2.2.2.1
abbrev XV.gx (v : XV) : Nat → Int32 := v.1.2.2.2.2.1
abbrev XV.gy (v : XV) : Nat → Int32 := v.1.2.2.2.2.2
abbrev XV.len (v : XV) : Int32 := v.2.1.1
abbrev XV.nx (v : XV) : Int32 := v.2.1.2.1
abbrev XV.wet (v : XV) : Int32 := v.2.1.2.2.1
abbrev XV.less (v : XV) : Int32 := v.2.1.2.2.2.1
abbrev XV.pn (v : XV) : Int32 := v.2.1.2.2.2.2.1
abbrev XV.qn (v : XV) : Int32 := v.2.1.2.2.2.2.2.1
abbrev XV.sn (v : XV) : Int32 := v.2.1.2.2.2.2.2.2.1
abbrev XV.mo (v : XV) : Int32 := v.2.1.2.2.2.2.2.2.2
abbrev XV.ed (v : XV) : Nat := v.2.2.1.1
abbrev XV.k (v : XV) : Nat := v.2.2.1.2.1
abbrev XV.ef (v : XV) : Nat → Option Nat := v.2.2.1.2.2.1
abbrev XV.ma (v : XV) : Nat → Nat := v.2.2.1.2.2.2
abbrev XV.tf (v : XV) : Nat → Int32 := v.2.2.2.1.1
abbrev XV.df (v : XV) : Nat → Int32 := v.2.2.2.1.2.1
abbrev XV.rr (v : XV) : Nat → Int32 := v.2.2.2.1.2.2.1
abbrev XV.lf (v : XV) : Nat → Int32 := v.2.2.2.1.2.2.2.1
abbrev XV.pf (v : XV) : Nat → Int32 := v.2.2.2.1.2.2.2.2.1
abbrev XV.hx (v : XV) : Nat → Int32 := v.2.2.2.1.2.2.2.2.2.1
abbrev XV.hy (v : XV) : Nat → Int32 := v.2.2.2.1.2.2.2.2.2.2.1
abbrev XV.ee (v : XV) : Nat → Int32 := v.2.2.2.1.2.2.2.2.2.2.2.1
abbrev XV.ww (v : XV) : Nat → Int32 := v.2.2.2.1.2.2.2.2.2.2.2.2
abbrev XV.th (v : XV) : Int32 := v.2.2.2.2.1.1
abbrev XV.zs (v : XV) : Int32 := v.2.2.2.2.1.2.1
abbrev XV.po (v : XV) : Int32 := v.2.2.2.2.1.2.2.1
abbrev XV.fa (v : XV) : Int32 := v.2.2.2.2.1.2.2.2.1
abbrev XV.pk (v : XV) : Int32 := v.2.2.2.2.1.2.2.2.2.1
abbrev XV.pm (v : XV) : Int32 := v.2.2.2.2.1.2.2.2.2.2.1
abbrev XV.co (v : XV) : Int32 := v.2.2.2.2.1.2.2.2.2.2.2.1
abbrev XV.pl (v : XV) : Int32 := v.2.2.2.2.1.2.2.2.2.2.2.2.1
abbrev XV.mb (v : XV) : Int32 := v.2.2.2.2.1.2.2.2.2.2.2.2.2
abbrev XV.we (v : XV) : Int64 := v.2.2.2.2.2.1
abbrev XV.le (v : XV) : Int64 := v.2.2.2.2.2.2.1
abbrev XV.ou (v : XV) : Nat → Int64 := v.2.2.2.2.2.2.2
abbrev xu_mk (uf : Nat → Int32) (rf : Nat → Int32) (xf : Nat → Int32) (yf : Nat → Int32) (gx : Nat → Int32) (gy : Nat → Int32) (len : Int32) (nx : Int32) (wet : Int32) (less : Int32) (pn : Int32) (qn : Int32) (sn : Int32) (mo : Int32) (ed : Nat) (k : Nat) (ef : Nat → Option Nat) (ma : Nat → Nat) (tf : Nat → Int32) (df : Nat → Int32) (rr : Nat → Int32) (lf : Nat → Int32) (pf : Nat → Int32) (hx : Nat → Int32) (hy : Nat → Int32) (ee : Nat → Int32) (ww : Nat → Int32) (th : Int32) (zs : Int32) (po : Int32) (fa : Int32) (pk : Int32) (pm : Int32) (co : Int32) (pl : Int32) (mb : Int32) (we : Int64) (le : Int64) (ou : Nat → Int64) : XV := ((uf, rf, xf, yf, gx, gy), (len, nx, wet, less, pn, qn, sn, mo), (ed, k, ef, ma), (tf, df, rr, lf, pf, hx, hy, ee, ww), (th, zs, po, fa, pk, pm, co, pl, mb), (we, le, ou))
abbrev xu_W (cI cC cL : ClassId) (Q : XQ) (v : XV) : va_W := [(Q.n, .inr (0, [.ref Q.t, .ref Q.r, .int v.wet, .int v.less, .ref Q.px, .ref Q.py, .int v.pn, .ref Q.qx, .ref Q.qy, .int v.qn, .ref Q.l])), (Q.t, .inr (1, [.ref Q.u, .int v.len, .int v.nx])), (Q.u, .inl (cC, 200, .inl v.uf)), (Q.r, .inl (cI, 28, .inl v.rf)), (Q.px, .inl (cI, 100, .inl v.xf)), (Q.py, .inl (cI, 100, .inl v.yf)), (Q.qx, .inl (cI, 32, .inl v.gx)), (Q.qy, .inl (cI, 32, .inl v.gy)), (Q.l, .inr (4, [.ref v.ed, .int v.sn, .int v.mo])), (Q.m, .inr (3, [.int v.th, .ref Q.ta, .int v.zs, .int v.po, .int v.fa, .ref Q.da, .ref Q.ru, .ref Q.la, .long v.we, .long v.le, .int v.pk, .int v.pm, .int v.co, .ref Q.pa, .int v.pl, .ref Q.xa, .ref Q.ya, .int v.mb, .ref Q.ea, .ref Q.wa])), (Q.ta, .inl (cI, 200, .inl v.tf)), (Q.da, .inl (cI, 48, .inl v.df)), (Q.ru, .inl (cI, 28, .inl v.rr)), (Q.la, .inl (cI, 35, .inl v.lf)), (Q.pa, .inl (cI, 4, .inl v.pf)), (Q.xa, .inl (cI, 32, .inl v.hx)), (Q.ya, .inl (cI, 32, .inl v.hy)), (Q.ea, .inl (cI, 24, .inl v.ee)), (Q.wa, .inl (cI, 6, .inl v.ww)), (Q.o, .inl (cL, 1, .inr (.inl v.ou)))]
/-- the list's array and its members -/
abbrev xu_m (v : XV) (i : Nat) : Nat × va_E := (v.ma i, .inr (2, [.long (v.ee (4 * i)).toInt64, .long (v.ee (4 * i + 1)).toInt64, .long (v.ee (4 * i + 2) - v.ee (4 * i)).toInt64, .long (v.ee (4 * i + 3) - v.ee (4 * i + 1)).toInt64, .long (v.ww i).toInt64]))
def xu_T (cO : ClassId) (v : XV) : va_W := if v.k = 0 then [] else (v.ed, .inl (cO, 10, .inr (.inr (.inr (.inr v.ef))))) :: (List.range v.k).map (xu_m v)
/-- what holds between the calls -/
def xu_I (d0 : Nat) (v : XV) : Prop := (0 ≤ v.len) ∧ (v.len ≤ 200) ∧ (v.zs = v.len) ∧ (v.pn ≤ 100) ∧ (0 ≤ v.qn) ∧ (v.qn ≤ 32) ∧ (v.pl = v.qn) ∧ (∀ j, j < 28 → 1 ≤ (v.rr j).toInt ∧ (v.rr j).toInt ≤ 9999) ∧ (¬ v.pk = (-1) → ¬ v.co = 0) ∧ (v.k ≤ 6) ∧ (v.mb = nI v.k) ∧ (v.sn = nI v.k) ∧ (v.k = 0 → v.ed = d0) ∧ (∀ i, i < v.k → v.ef i = some (v.ma i)) ∧ (v.le = v.less.toInt64) ∧ (0 ≤ v.less) ∧ (v.less ≤ 100) ∧ (∀ j, j < v.len.toNatClampNeg → v.uf j = v.tf j) ∧ (∀ j, j < 35 → v.lf j = xj_L j)
theorem xu_I.len0 {d0 : Nat} {v : XV} (h : xu_I d0 v) : 0 ≤ v.len := h.1
theorem xu_I.len1 {d0 : Nat} {v : XV} (h : xu_I d0 v) : v.len ≤ 200 := h.2.1
theorem xu_I.zs {d0 : Nat} {v : XV} (h : xu_I d0 v) : v.zs = v.len := h.2.2.1
theorem xu_I.pn1 {d0 : Nat} {v : XV} (h : xu_I d0 v) : v.pn ≤ 100 := h.2.2.2.1
theorem xu_I.qn0 {d0 : Nat} {v : XV} (h : xu_I d0 v) : 0 ≤ v.qn := h.2.2.2.2.1
theorem xu_I.qn1 {d0 : Nat} {v : XV} (h : xu_I d0 v) : v.qn ≤ 32 := h.2.2.2.2.2.1
theorem xu_I.pl {d0 : Nat} {v : XV} (h : xu_I d0 v) : v.pl = v.qn := h.2.2.2.2.2.2.1
theorem xu_I.rr {d0 : Nat} {v : XV} (h : xu_I d0 v) : ∀ j, j < 28 → 1 ≤ (v.rr j).toInt ∧ (v.rr j).toInt ≤ 9999 := h.2.2.2.2.2.2.2.1
theorem xu_I.co {d0 : Nat} {v : XV} (h : xu_I d0 v) : ¬ v.pk = (-1) → ¬ v.co = 0 := h.2.2.2.2.2.2.2.2.1
theorem xu_I.k6 {d0 : Nat} {v : XV} (h : xu_I d0 v) : v.k ≤ 6 := h.2.2.2.2.2.2.2.2.2.1
theorem xu_I.mb {d0 : Nat} {v : XV} (h : xu_I d0 v) : v.mb = nI v.k := h.2.2.2.2.2.2.2.2.2.2.1
theorem xu_I.sn {d0 : Nat} {v : XV} (h : xu_I d0 v) : v.sn = nI v.k := h.2.2.2.2.2.2.2.2.2.2.2.1
theorem xu_I.ed {d0 : Nat} {v : XV} (h : xu_I d0 v) : v.k = 0 → v.ed = d0 := h.2.2.2.2.2.2.2.2.2.2.2.2.1
theorem xu_I.ef {d0 : Nat} {v : XV} (h : xu_I d0 v) : ∀ i, i < v.k → v.ef i = some (v.ma i) := h.2.2.2.2.2.2.2.2.2.2.2.2.2.1
theorem xu_I.le {d0 : Nat} {v : XV} (h : xu_I d0 v) : v.le = v.less.toInt64 := h.2.2.2.2.2.2.2.2.2.2.2.2.2.2.1
theorem xu_I.less0 {d0 : Nat} {v : XV} (h : xu_I d0 v) : 0 ≤ v.less := h.2.2.2.2.2.2.2.2.2.2.2.2.2.2.2.1
theorem xu_I.less1 {d0 : Nat} {v : XV} (h : xu_I d0 v) : v.less ≤ 100 := h.2.2.2.2.2.2.2.2.2.2.2.2.2.2.2.2.1
theorem xu_I.tx {d0 : Nat} {v : XV} (h : xu_I d0 v) : ∀ j, j < v.len.toNatClampNeg → v.uf j = v.tf j := h.2.2.2.2.2.2.2.2.2.2.2.2.2.2.2.2.2.1
theorem xu_I.lx {d0 : Nat} {v : XV} (h : xu_I d0 v) : ∀ j, j < 35 → v.lf j = xj_L j := h.2.2.2.2.2.2.2.2.2.2.2.2.2.2.2.2.2.2
theorem xu_mkI {d0 : Nat} {v : XV} (h_len0 : 0 ≤ v.len) (h_len1 : v.len ≤ 200) (h_zs : v.zs = v.len) (h_pn1 : v.pn ≤ 100) (h_qn0 : 0 ≤ v.qn) (h_qn1 : v.qn ≤ 32) (h_pl : v.pl = v.qn) (h_rr : ∀ j, j < 28 → 1 ≤ (v.rr j).toInt ∧ (v.rr j).toInt ≤ 9999) (h_co : ¬ v.pk = (-1) → ¬ v.co = 0) (h_k6 : v.k ≤ 6) (h_mb : v.mb = nI v.k) (h_sn : v.sn = nI v.k) (h_ed : v.k = 0 → v.ed = d0) (h_ef : ∀ i, i < v.k → v.ef i = some (v.ma i)) (h_le : v.le = v.less.toInt64) (h_less0 : 0 ≤ v.less) (h_less1 : v.less ≤ 100) (h_tx : ∀ j, j < v.len.toNatClampNeg → v.uf j = v.tf j) (h_lx : ∀ j, j < 35 → v.lf j = xj_L j) : xu_I d0 v := ⟨h_len0, h_len1, h_zs, h_pn1, h_qn0, h_qn1, h_pl, h_rr, h_co, h_k6, h_mb, h_sn, h_ed, h_ef, h_le, h_less0, h_less1, h_tx, h_lx⟩
