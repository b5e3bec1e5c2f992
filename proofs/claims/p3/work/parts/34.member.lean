/-! members: one taken out of the tail; one more -/
def xz_rest (v : XV) (i : Nat) : va_W := ((List.range v.k).erase i).map (xu_m v)
theorem xz_mem {cO : ClassId} {d0 : Nat} {v : XV} (hI : xu_I d0 v) {X : Int32} (h : ¬ (X < 0 ∨ ¬ X < fA_size v.sn)) : ∃ i : Nat, i < v.k ∧ X = nI i ∧ vp_in X 10 ∧ v.ef X.toNatClampNeg = some (v.ma i) ∧ (xu_T cO v).Perm ([(v.ed, .inl (cO, 10, .inr (.inr (.inr (.inr v.ef))))), xu_m v i] ++ xz_rest v i) := by
  obtain ⟨i, hi, rfl⟩ := nI_of (xh_1 h)
  have h2 := xh_2 h
  have hk := hI.k6
  unfold fA_size at h2
  rw [hI.sn, nI_ltI hi (by omega)] at h2
  refine ⟨i, h2, rfl, vp_in_nI (by omega) (by omega), ?_, ?_⟩
  · rw [nI_clamp hi]; exact hI.ef i h2
  · unfold xu_T xz_rest
    rw [if_neg (by omega)]
    refine List.Perm.cons _ ?_
    exact (List.perm_cons_erase (List.mem_range.mpr h2)).map (xu_m v)
theorem xz_pl {x : Int32} : fR_isPlace x = true ↔ ¬ (x.toInt64 < (-10000) ∨ ¬ x.toInt64 ≤ 10000) := by
  unfold fR_isPlace
  exact xi_isIn
abbrev xz_B (sn x0 y0 x1 y1 wd : Int32) : Prop := (x0.toInt64 < (-10000) ∨ ¬ x0.toInt64 ≤ 10000) ∨ (y0.toInt64 < (-10000) ∨ ¬ y0.toInt64 ≤ 10000) ∨ (x1.toInt64 < (-10000) ∨ ¬ x1.toInt64 ≤ 10000) ∨ (y1.toInt64 < (-10000) ∨ ¬ y1.toInt64 ≤ 10000) ∨ (x0 = x1 ∧ y0 = y1) ∨ (wd.toInt64 < 1 ∨ ¬ wd.toInt64 ≤ 10000) ∨ (¬ fA_size sn < 6)
theorem xz_6 {k : Nat} (hk : k ≤ 6) : nI k = 6 ↔ ¬ fA_size (nI k) < 6 := by
  unfold fA_size
  rw [show (6 : Int32) = nI 6 from rfl, nI_eq (by omega) (by decide), nI_ltI (by omega) (by decide)]
  omega
theorem xz_rb {ef wf : Nat → Int32} {mb sn x0 y0 x1 y1 wd : Int32} {k : Nat} (hk : k ≤ 6) (e : mb = nI k) (e2 : sn = nI k) (h : xz_B sn x0 y0 x1 y1 wd) : gR_member_17 ef wf mb x0 y0 x1 y1 wd = mb ∧ gR_member_e ef wf mb x0 y0 x1 y1 wd = ef ∧ gR_member_w ef wf mb x0 y0 x1 y1 wd = wf := by
  subst e e2
  unfold gR_member_17 gR_member_e gR_member_w
  by_cases c1 : fR_isPlace x0 = true
  · simp only [if_pos c1]
    by_cases c2 : fR_isPlace y0 = true
    · simp only [if_pos c2]
      by_cases c3 : fR_isPlace x1 = true
      · simp only [if_pos c3]
        by_cases c4 : fR_isPlace y1 = true
        · simp only [if_pos c4]
          by_cases c5 : fR_isIn wd.toInt64 (1) (10000) = true
          · simp only [if_pos c5]
            by_cases c6 : nI k = 6
            · simp only [if_pos c6, ite_self, and_self]
            · simp only [if_neg c6]
              by_cases c7 : x0 = x1
              · simp only [if_pos c7]
                by_cases c8 : y0 = y1
                · simp only [if_pos c8, and_self]
                · exfalso
                  rcases h with h | h | h | h | h | h | h
                  · exact xz_pl.mp c1 h
                  · exact xz_pl.mp c2 h
                  · exact xz_pl.mp c3 h
                  · exact xz_pl.mp c4 h
                  · exact c8 h.2
                  · exact xi_isIn.mp c5 h
                  · exact c6 ((xz_6 hk).mpr h)
              · exfalso
                rcases h with h | h | h | h | h | h | h
                · exact xz_pl.mp c1 h
                · exact xz_pl.mp c2 h
                · exact xz_pl.mp c3 h
                · exact xz_pl.mp c4 h
                · exact c7 h.1
                · exact xi_isIn.mp c5 h
                · exact c6 ((xz_6 hk).mpr h)
          · simp only [if_neg c5, ite_self, and_self]
        · simp only [if_neg c4, and_self]
      · simp only [if_neg c3, and_self]
    · simp only [if_neg c2, and_self]
  · simp only [if_neg c1, and_self]
theorem xz_rg {ef wf : Nat → Int32} {mb sn x0 y0 x1 y1 wd : Int32} {k : Nat} (hk : k ≤ 6) (e : mb = nI k) (e2 : sn = nI k) (h : ¬ xz_B sn x0 y0 x1 y1 wd) : gR_member_17 ef wf mb x0 y0 x1 y1 wd = mb + 1 ∧ gR_member_e ef wf mb x0 y0 x1 y1 wd = upd (upd (upd (upd ef (4 * mb).toNatClampNeg x0) ((4 * mb) + 1).toNatClampNeg y0) ((4 * mb) + 2).toNatClampNeg x1) ((4 * mb) + 3).toNatClampNeg y1 ∧ gR_member_w ef wf mb x0 y0 x1 y1 wd = upd wf mb.toNatClampNeg wd := by
  subst e e2
  have c1 : fR_isPlace x0 = true := xz_pl.mpr (fun q => h (Or.inl q))
  have c2 : fR_isPlace y0 = true := xz_pl.mpr (fun q => h (Or.inr (Or.inl q)))
  have c3 : fR_isPlace x1 = true := xz_pl.mpr (fun q => h (Or.inr (Or.inr (Or.inl q))))
  have c4 : fR_isPlace y1 = true := xz_pl.mpr (fun q => h (Or.inr (Or.inr (Or.inr (Or.inl q)))))
  have c5 : ¬ (x0 = x1 ∧ y0 = y1) := fun q => h (Or.inr (Or.inr (Or.inr (Or.inr (Or.inl q)))))
  have c6 : fR_isIn wd.toInt64 (1) (10000) = true := xi_isIn.mpr (fun q => h (Or.inr (Or.inr (Or.inr (Or.inr (Or.inr (Or.inl q)))))))
  have c7 : ¬ nI k = 6 := fun q => h (Or.inr (Or.inr (Or.inr (Or.inr (Or.inr (Or.inr ((xz_6 hk).mp q)))))))
  unfold gR_member_17 gR_member_e gR_member_w
  simp only [if_pos c1, if_pos c2, if_pos c3, if_pos c4, if_pos c6, if_neg c7]
  by_cases c8 : x0 = x1
  · simp only [if_pos c8, if_neg (fun q => c5 ⟨c8, q⟩), and_self]
  · simp only [if_neg c8, and_self]
/-- a member more -/
abbrev xz_v (v : XV) (q ed : Nat) (ef : Nat → Option Nat) (sn mo th : Int32) (ou : Nat → Int64) (x0 y0 x1 y1 wd : Int32) : XV :=
  xu_mk v.uf v.rf v.xf v.yf v.gx v.gy v.len v.nx v.wet v.less v.pn v.qn (sn) (mo) (ed) (v.k + 1) (ef) (va_up v.ma v.k q) v.tf v.df v.rr v.lf v.pf v.hx v.hy (upd (upd (upd (upd v.ee (4 * v.mb).toNatClampNeg x0) ((4 * v.mb) + 1).toNatClampNeg y0) ((4 * v.mb) + 2).toNatClampNeg x1) ((4 * v.mb) + 3).toNatClampNeg y1) (upd v.ww v.mb.toNatClampNeg wd) (th) v.zs v.po v.fa v.pk v.pm v.co v.pl (v.mb + 1) v.we v.le (ou)
theorem xz_c {k : Nat} (hk : k ≤ 5) : (4 * nI k).toNatClampNeg = 4 * k ∧ ((4 * nI k) + 1).toNatClampNeg = 4 * k + 1 ∧ ((4 * nI k) + 2).toNatClampNeg = 4 * k + 2 ∧ ((4 * nI k) + 3).toNatClampNeg = 4 * k + 3 ∧ (nI k).toNatClampNeg = k := by
  rw [show (4 : Int32) = nI 4 from rfl, pk_mul, nI_1, show (2 : Int32) = nI 2 from rfl, show (3 : Int32) = nI 3 from rfl, nI_add, nI_add]
  exact ⟨nI_clamp (by omega), nI_clamp (by omega), nI_clamp (by omega), nI_clamp (by omega), nI_clamp (by omega)⟩
theorem xz_5 {d0 : Nat} {v : XV} {x0 y0 x1 y1 wd : Int32} (hI : xu_I d0 v) (h : ¬ xz_B v.sn x0 y0 x1 y1 wd) : v.k ≤ 5 := by
  have h1 : ¬ ¬ fA_size v.sn < 6 := fun q => h (Or.inr (Or.inr (Or.inr (Or.inr (Or.inr (Or.inr q))))))
  have hk := hI.k6
  rw [hI.sn] at h1
  have h2 : ¬ nI v.k = 6 := fun q => h1 ((xz_6 hk).mp q)
  rw [show (6 : Int32) = nI 6 from rfl, nI_eq (by omega) (by decide)] at h2
  omega
theorem xz_t {cO : ClassId} {d0 : Nat} {v : XV} {q ed : Nat} {ef : Nat → Option Nat} {sn mo th : Int32} {ou : Nat → Int64} {x0 y0 x1 y1 wd : Int32} (hI : xu_I d0 v) (hk : v.k ≤ 5) :
    (([(ed, .inl (cO, 10, .inr (.inr (.inr (.inr ef))))), (q, .inr (2, [.long x0.toInt64, .long y0.toInt64, .long (x1 - x0).toInt64, .long (y1 - y0).toInt64, .long wd.toInt64]))] : va_W) ++ (List.range v.k).map (xu_m v)).Perm (xu_T cO (xz_v v q ed ef sn mo th ou x0 y0 x1 y1 wd)) := by
  obtain ⟨e0, e1, e2, e3, e4⟩ := xz_c hk
  have hm := hI.mb
  have hnew : xu_m (xz_v v q ed ef sn mo th ou x0 y0 x1 y1 wd) v.k = (q, .inr (2, [.long x0.toInt64, .long y0.toInt64, .long (x1 - x0).toInt64, .long (y1 - y0).toInt64, .long wd.toInt64])) := by
    show ((va_up v.ma v.k q v.k, Sum.inr (2, [Value.long (upd (upd (upd (upd v.ee (4 * v.mb).toNatClampNeg x0) ((4 * v.mb) + 1).toNatClampNeg y0) ((4 * v.mb) + 2).toNatClampNeg x1) ((4 * v.mb) + 3).toNatClampNeg y1 (4 * v.k)).toInt64, Value.long (upd (upd (upd (upd v.ee (4 * v.mb).toNatClampNeg x0) ((4 * v.mb) + 1).toNatClampNeg y0) ((4 * v.mb) + 2).toNatClampNeg x1) ((4 * v.mb) + 3).toNatClampNeg y1 (4 * v.k + 1)).toInt64, Value.long ((upd (upd (upd (upd v.ee (4 * v.mb).toNatClampNeg x0) ((4 * v.mb) + 1).toNatClampNeg y0) ((4 * v.mb) + 2).toNatClampNeg x1) ((4 * v.mb) + 3).toNatClampNeg y1 (4 * v.k + 2)) - (upd (upd (upd (upd v.ee (4 * v.mb).toNatClampNeg x0) ((4 * v.mb) + 1).toNatClampNeg y0) ((4 * v.mb) + 2).toNatClampNeg x1) ((4 * v.mb) + 3).toNatClampNeg y1 (4 * v.k))).toInt64, Value.long ((upd (upd (upd (upd v.ee (4 * v.mb).toNatClampNeg x0) ((4 * v.mb) + 1).toNatClampNeg y0) ((4 * v.mb) + 2).toNatClampNeg x1) ((4 * v.mb) + 3).toNatClampNeg y1 (4 * v.k + 3)) - (upd (upd (upd (upd v.ee (4 * v.mb).toNatClampNeg x0) ((4 * v.mb) + 1).toNatClampNeg y0) ((4 * v.mb) + 2).toNatClampNeg x1) ((4 * v.mb) + 3).toNatClampNeg y1 (4 * v.k + 1))).toInt64, Value.long (upd v.ww v.mb.toNatClampNeg wd v.k).toInt64])) : Nat × va_E) = _
    simp only [hm, e0, e1, e2, e3, e4]
    have u0 : upd (upd (upd (upd v.ee (4 * v.k) x0) (4 * v.k + 1) y0) (4 * v.k + 2) x1) (4 * v.k + 3) y1 (4 * v.k) = x0 := by rw [pk_un (by omega), pk_un (by omega), pk_un (by omega), pk_us]
    have u1 : upd (upd (upd (upd v.ee (4 * v.k) x0) (4 * v.k + 1) y0) (4 * v.k + 2) x1) (4 * v.k + 3) y1 (4 * v.k + 1) = y0 := by rw [pk_un (by omega), pk_un (by omega), pk_us]
    have u2 : upd (upd (upd (upd v.ee (4 * v.k) x0) (4 * v.k + 1) y0) (4 * v.k + 2) x1) (4 * v.k + 3) y1 (4 * v.k + 2) = x1 := by rw [pk_un (by omega), pk_us]
    have u3 : upd (upd (upd (upd v.ee (4 * v.k) x0) (4 * v.k + 1) y0) (4 * v.k + 2) x1) (4 * v.k + 3) y1 (4 * v.k + 3) = y1 := by rw [pk_us]
    have uw : upd v.ww v.k wd v.k = wd := pk_us
    have um : va_up v.ma v.k q v.k = q := by unfold va_up; rw [if_pos rfl]
    rw [u0, u1, u2, u3, uw, um]
  have hold : ∀ i, i < v.k → xu_m (xz_v v q ed ef sn mo th ou x0 y0 x1 y1 wd) i = xu_m v i := by
    intro i hi
    show ((va_up v.ma v.k q i, Sum.inr (2, [Value.long (upd (upd (upd (upd v.ee (4 * v.mb).toNatClampNeg x0) ((4 * v.mb) + 1).toNatClampNeg y0) ((4 * v.mb) + 2).toNatClampNeg x1) ((4 * v.mb) + 3).toNatClampNeg y1 (4 * i)).toInt64, Value.long (upd (upd (upd (upd v.ee (4 * v.mb).toNatClampNeg x0) ((4 * v.mb) + 1).toNatClampNeg y0) ((4 * v.mb) + 2).toNatClampNeg x1) ((4 * v.mb) + 3).toNatClampNeg y1 (4 * i + 1)).toInt64, Value.long ((upd (upd (upd (upd v.ee (4 * v.mb).toNatClampNeg x0) ((4 * v.mb) + 1).toNatClampNeg y0) ((4 * v.mb) + 2).toNatClampNeg x1) ((4 * v.mb) + 3).toNatClampNeg y1 (4 * i + 2)) - (upd (upd (upd (upd v.ee (4 * v.mb).toNatClampNeg x0) ((4 * v.mb) + 1).toNatClampNeg y0) ((4 * v.mb) + 2).toNatClampNeg x1) ((4 * v.mb) + 3).toNatClampNeg y1 (4 * i))).toInt64, Value.long ((upd (upd (upd (upd v.ee (4 * v.mb).toNatClampNeg x0) ((4 * v.mb) + 1).toNatClampNeg y0) ((4 * v.mb) + 2).toNatClampNeg x1) ((4 * v.mb) + 3).toNatClampNeg y1 (4 * i + 3)) - (upd (upd (upd (upd v.ee (4 * v.mb).toNatClampNeg x0) ((4 * v.mb) + 1).toNatClampNeg y0) ((4 * v.mb) + 2).toNatClampNeg x1) ((4 * v.mb) + 3).toNatClampNeg y1 (4 * i + 1))).toInt64, Value.long (upd v.ww v.mb.toNatClampNeg wd i).toInt64])) : Nat × va_E) = _
    simp only [hm, e0, e1, e2, e3, e4]
    have u : ∀ j, j < 4 * v.k → upd (upd (upd (upd v.ee (4 * v.k) x0) (4 * v.k + 1) y0) (4 * v.k + 2) x1) (4 * v.k + 3) y1 j = v.ee j := by
      intro j hj
      rw [pk_un (by omega), pk_un (by omega), pk_un (by omega), pk_un (by omega)]
    rw [u _ (by omega), u _ (by omega), u _ (by omega), u _ (by omega), pk_un (by omega)]
    rw [show va_up v.ma v.k q i = v.ma i from by unfold va_up; rw [if_neg (by omega)]]
  have hT : xu_T cO (xz_v v q ed ef sn mo th ou x0 y0 x1 y1 wd) = (ed, .inl (cO, 10, .inr (.inr (.inr (.inr ef))))) :: ((List.range v.k).map (xu_m v) ++ [(q, .inr (2, [.long x0.toInt64, .long y0.toInt64, .long (x1 - x0).toInt64, .long (y1 - y0).toInt64, .long wd.toInt64]))]) := by
    unfold xu_T
    rw [if_neg (by show ¬ v.k + 1 = 0; omega)]
    show _ :: (List.range (v.k + 1)).map _ = _
    rw [List.range_succ, List.map_append, List.map_cons, List.map_nil, hnew]
    congr 2
    exact List.map_congr_left (fun i hi => hold i (List.mem_range.mp hi))
  rw [hT]
  exact List.Perm.cons _ (List.perm_append_comm (l₁ := [_]))
theorem xz_I {d0 : Nat} {v : XV} {q ed : Nat} {ef : Nat → Option Nat} {sn mo th : Int32} {ou : Nat → Int64} {x0 y0 x1 y1 wd : Int32} (hI : xu_I d0 v) (hk : v.k ≤ 5) (hs : sn = nI (v.k + 1)) (h1 : ef v.k = some q) (h2 : ∀ i, i < v.k → ef i = some (v.ma i)) : xu_I d0 (xz_v v q ed ef sn mo th ou x0 y0 x1 y1 wd) :=
  xu_mkI (hI.len0) (hI.len1) (hI.zs) (hI.pn1) (hI.qn0) (hI.qn1) (hI.pl) (hI.rr) (hI.co) (by show v.k + 1 ≤ 6; omega) (by show v.mb + 1 = nI (v.k + 1); rw [hI.mb, nI_1]) (hs) (fun h => absurd h (Nat.succ_ne_zero _)) (fun i hi => by
      show ef i = some (va_up v.ma v.k q i)
      have hi : i < v.k + 1 := hi
      unfold va_up
      by_cases e : i = v.k
      · rw [if_pos e, e]; exact h1
      · rw [if_neg e]; exact h2 i (by omega)) (hI.le) (hI.less0) (hI.less1) hI.tx hI.lx
theorem xz_nil {cO : ClassId} {v : XV} (h : v.k = 0) : xu_T cO v = (List.range v.k).map (xu_m v) := by
  unfold xu_T
  rw [if_pos h, h]
  rfl
theorem xz_one {cO : ClassId} {v : XV} (h : ¬ v.k = 0) : (xu_T cO v).Perm ([(v.ed, .inl (cO, 10, .inr (.inr (.inr (.inr v.ef)))))] ++ (List.range v.k).map (xu_m v)) := by
  unfold xu_T
  rw [if_neg h]
  exact List.Perm.refl _
theorem xb_rf (s : State) : xb_At s s := ⟨State.WarmedH.refl s, Nat.le_refl _, fun _ _ => rfl⟩
theorem xt_perm {D : va_G} {A : Nat → Prop} {ws ws' tl : va_W} {H : Heap} (h : xtl_T D A ws tl H) (is : List Nat) (hs : is.map (fun i : Nat => ws[i]?) = ws'.map some) : xtl_T D A ws' tl H :=
  ⟨h.1, h.2.1, fun i j p q hi hj => by
    obtain ⟨i', hi'⟩ := xb_pick hs hi
    exact h.2.2 i' j p q hi' hj⟩
