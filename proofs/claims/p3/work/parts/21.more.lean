/-! new arrays of the known array classes; lists; what was there at the law's start -/
abbrev xa_A (s0 : State) : Nat → Prop := fun q => s0.heap.size ≤ q
def xa_prim : FieldType → Bool
  | .object _ => false
  | _ => true
theorem xa_RA1 {U : State} {c : ClassId} {ty : FieldType} (hp : xa_prim ty = true) (h : va_RA U c ty) : U.vm.findClass ("[" ++ ty.toString) = some c := by
  cases ty <;> first | exact h | (simp [xa_prim] at hp)
theorem xa_RA2 {U : State} {c : ClassId} {C : String} (h : va_RA U c (.object C)) : U.vm.findClass ("[" ++ (FieldType.object C).toString) = some c := by
  obtain ⟨_, _, -, -, -, h4⟩ := h
  exact h4
section XA
variable {p : Program} {l : Launch} {e : Env} {R : Room} {s : State} {m : MethodId} {args : Array Value} {below : List Frame} {meth : Method} {c : Code} {H : Heap} {locs : List Loc} {cells slots : Nat} {Q : State → Prop}
variable {cc : ByteArray} {pc : Nat} {ls : Array Slot} {rest : List Value} {D : va_G} {cl : List vw_C} {A : Nat → Prop} {a : Nat} {tys : List (ClassId × FieldType)} {ws : va_W} {H0 : Heap}
theorem xa_new (hexec : p.tables.exec = Jvm.exec) (hb : c.code = cc) {atype : ArrayType} (harr : (Cond.arrayClass (newarray.typeOf atype)).before args s = true) {ty : FieldType} (hty : newarray.typeOf atype = ty) (hK : va_K D cl tys s) {t0 : Nat} {cX : ClassId} (ht : tys[t0]? = some (cX, ty)) (hpr : xa_prim ty = true) (hP : va_P D cl ws H) (hD : va_D A ws) (hS : va_S A H0 H locs) (hA : ∀ q, H0.size ≤ q → A q)
    {n : Int32} {N' : Nat} {a0 : vp_A} (ha : ∀ cA : ClassId, vp_cell cA a0 = arrV cA N' (fun _ => defaultValue ty)) (hn : ¬ n < 0) (hN : n.toNatClampNeg = N') (hbytes : N' * componentBytes ty ≤ 536870912) (hcells : cells + 1 ≤ R.cells) (hslots : slots + N' ≤ R.slots) (hdg : decode cc pc = .ok (.newarray atype, 2))
    (kk : ∀ (q : Nat) (H1 : Heap), va_P D cl (ws ++ [(q, .inl (cX, a0))]) H1 → va_D A (ws ++ [(q, .inl (cX, a0))]) → va_S A H0 H1 locs →
      W p l e R s m args below meth c H1 locs (cells + 1) (slots + N') Q (F0 m (pc + 2) ls (.ref q :: rest))) : W p l e R s m args below meth c H locs cells slots Q (F0 m pc ls (.int n :: rest)) := by
  refine va_newa hexec hb harr hty hK hP hD hS hA ha hn hN hbytes hcells hslots hdg (fun q cA H1 hK' hP' hD' hS' => ?_)
  have h1 := xa_RA1 hpr (hK.2 t0 _ ht).2
  have h2 := xa_RA1 hpr (hK'.2 tys.length (cA, ty) (by simp)).2
  have e : cA = cX := Option.some.inj (h2.symm.trans h1)
  subst e
  exact kk q H1 hP' hD' hS'
theorem xa_newq (hexec : p.tables.exec = Jvm.exec) (hb : c.code = cc) {own C : String} {index : Nat} (hown : s.vm.findClass own = some m.cls) (hclink : (Cond.classLink own index C).before args s = true) (hover : va_AO C s) (hK : va_K D cl tys s) {t0 : Nat} {cX : ClassId} (ht : tys[t0]? = some (cX, .object C)) (hP : va_P D cl ws H) (hD : va_D A ws) (hS : va_S A H0 H locs) (hA : ∀ q, H0.size ≤ q → A q)
    {n : Int32} {N' : Nat} (hn : ¬ n < 0) (hN : n.toNatClampNeg = N') (hbytes : N' * 4 ≤ 536870912) (hcells : cells + 1 ≤ R.cells) (hslots : slots + N' ≤ R.slots) (hdg : decode cc pc = .ok (.anewarray index, 3))
    (kk : ∀ (q : Nat) (H1 : Heap), va_P D cl (ws ++ [(q, .inl (cX, N', .inr (.inr (.inr (.inr (fun _ => none))))))]) H1 → va_D A (ws ++ [(q, .inl (cX, N', .inr (.inr (.inr (.inr (fun _ => none))))))]) → va_S A H0 H1 locs →
      W p l e R s m args below meth c H1 locs (cells + 1) (slots + N') Q (F0 m (pc + 3) ls (.ref q :: rest))) : W p l e R s m args below meth c H locs cells slots Q (F0 m pc ls (.int n :: rest)) := by
  refine va_newq hexec hb hown hclink hover hK hP hD hS hA hn hN hbytes hcells hslots hdg (fun q cA H1 hK' hP' hD' hS' => ?_)
  have h1 := xa_RA2 (hK.2 t0 _ ht).2
  have h2 := xa_RA2 (hK'.2 tys.length (cA, .object C) (by simp)).2
  have e : cA = cX := Option.some.inj (h2.symm.trans h1)
  subst e
  exact kk q H1 hP' hD' hS'
theorem xa_ald (hexec : p.tables.exec = Jvm.exec) (hb : c.code = cc) (hK : va_K D cl tys s) (hP : va_P D cl ws H) (q0 t0 : Nat) {cA : ClassId} {C : String} {n v : Nat} {f : Nat → Option Nat} (ha : ws[q0]? = some (a, .inl (cA, n, .inr (.inr (.inr (.inr f)))))) (ht : tys[t0]? = some (cA, .object C)) {i : Int32} (hin : vp_in i n) (hv : f i.toNatClampNeg = some v) (hdg : decode cc pc = .ok (.aaload, 1))
    (kk : W p l e R s m args below meth c H locs cells slots Q (F0 m (pc + 1) ls (.ref v :: rest))) : W p l e R s m args below meth c H locs cells slots Q (F0 m pc ls (.int i :: .ref a :: rest)) :=
  va_aldq hexec hb hK hP q0 t0 ha ht hin hdg (by rw [hv]; exact kk)
end XA
theorem xa_cst {l : Launch} {s0 U : State} {dC : Nat → ClassId} {dI : Nat → Nat → Nat} {tys : List (ClassId × FieldType)} (E : xb_Env l s0 dC dI tys) (h : xb_At s0 U) {a b : String} (hw : Cond.castable a b ∈ lw_tbl) : va_Nw (.castable a b) U := by
  obtain ⟨-, ⟨a0, h1, -⟩, -⟩ := E
  exact va_Nw.warmC h.1 (va_Nw.of rfl (h1 _ hw))
theorem xa_ao {l : Launch} {s0 U : State} {dC : Nat → ClassId} {dI : Nat → Nat → Nat} {tys : List (ClassId × FieldType)} (E : xb_Env l s0 dC dI tys) (h : xb_At s0 U) {C : String} (hw : Cond.arrayOver (.object C) ∈ lw_tbl) : va_AO C U := by
  obtain ⟨-, ⟨a0, h1, -⟩, -⟩ := E
  exact va_AO.moved h.1.alike (va_AO.of (h1 _ hw))
theorem xa_keep {s0 U : State} (h : xb_At s0 U) : ∀ a : Nat, a < s0.heap.size → ¬ xa_A s0 a → U.heap[a]? = s0.heap[a]? := fun a h1 _ => h.2.2 a h1
/-- the array that an empty list has -/
def xa_D (s0 : State) (d0 : Nat) : Prop := va_Z "java/util/ArrayList" "DEFAULTCAPACITY_EMPTY_ELEMENTDATA" "[Ljava/lang/Object;" (.ref d0) (xa_A s0) s0 s0.heap ∧ va_T (.object "java/lang/Object") d0 0 (fun _ => .null) (xa_A s0) s0 s0.heap
theorem xa_Z {s0 U : State} {d0 : Nat} {A : Nat → Prop} (h : xa_D s0 d0) (hAt : xb_At s0 U) (hA : ∀ q, A q → s0.heap.size ≤ q) : va_Z "java/util/ArrayList" "DEFAULTCAPACITY_EMPTY_ELEMENTDATA" "[Ljava/lang/Object;" (.ref d0) A U U.heap :=
  ((va_Z.moved hAt.1.alike h.1).kept (xa_keep hAt)).narrow hA
theorem xa_T {s0 U : State} {d0 : Nat} {A : Nat → Prop} (h : xa_D s0 d0) (hAt : xb_At s0 U) (hA : ∀ q, A q → s0.heap.size ≤ q) : va_T (.object "java/lang/Object") d0 0 (fun _ => .null) A U U.heap :=
  ((va_T.moved hAt.1.alike h.2).kept (xa_keep hAt)).narrow hA
theorem xa_no10 {G : Prop} {x : Int32} (h : vp_in x 10) (e : x = 10) : G := by
  rw [e] at h
  exact absurd h (by unfold vp_in; decide)
/-! string constants: the seven words -/
def xs_len : List Nat := [4, 5, 4, 3, 4, 3, 4]
def xs_byt : List (List Int32) := [[115, 105, 122, 101], [102, 111, 114, 99, 101], [101, 100, 103, 101], [101, 110, 100], [115, 105, 100, 101], [114, 111, 119], [116, 104, 105, 110]]
def xs_ix : List Nat := [209, 210, 212, 214, 216, 218, 220]
def xs_tx : List String := ["size", "force", "edge", "end", "side", "row", "thin"]
def xs_V (s0 : State) (adK adV : Nat → Nat) : Prop := vk_S 7 xs_len xs_byt adK adV (xa_A s0) s0 s0.heap ∧ (∀ i, i < 7 → vk_R "NailRules" (xs_ix.getD i 0) (xs_tx.getD i "") (adK i) s0) ∧ va_Z "java/lang/String" "COMPACT_STRINGS" "Z" (.int 1) (xa_A s0) s0 s0.heap ∧ va_Zq "jdk/internal/util/Preconditions" "SIOOBE_FORMATTER" "Ljava/util/function/BiFunction;" (xa_A s0) s0 s0.heap
theorem xs_S {s0 U : State} {adK adV : Nat → Nat} (h : xs_V s0 adK adV) (hAt : xb_At s0 U) : vk_S 7 xs_len xs_byt adK adV (xa_A s0) U U.heap := (vk_S.moved hAt.1.alike h.1).kept (xa_keep hAt)
theorem xs_R {s0 U : State} {adK adV : Nat → Nat} (h : xs_V s0 adK adV) (hAt : xb_At s0 U) (i : Nat) (hi : i < 7) : vk_R "NailRules" (xs_ix.getD i 0) (xs_tx.getD i "") (adK i) U := vk_R.warm hAt.1 (h.2.1 i hi)
theorem xs_C {s0 U : State} {adK adV : Nat → Nat} (h : xs_V s0 adK adV) (hAt : xb_At s0 U) : va_Z "java/lang/String" "COMPACT_STRINGS" "Z" (.int 1) (xa_A s0) U U.heap := (va_Z.moved hAt.1.alike h.2.2.1).kept (xa_keep hAt)
theorem xs_F {s0 U : State} {adK adV : Nat → Nat} (h : xs_V s0 adK adV) (hAt : xb_At s0 U) : va_Zq "jdk/internal/util/Preconditions" "SIOOBE_FORMATTER" "Ljava/util/function/BiFunction;" (xa_A s0) U U.heap := (va_Zq.moved hAt.1.alike h.2.2.2).kept (xa_keep hAt)
theorem xs_rc {s0 s U : State} {H : Heap} {adK adV : Nat → Nat} (h : xs_V s0 adK adV) (hAt : xb_At s0 s) {A : Nat → Prop} {locs : List Loc} (hS : va_S A s.heap H locs) (hA : ∀ q, A q → s0.heap.size ≤ q) {i : Nat} (hi : i < 7) : ∃ cell : Cell, H[adK i]? = some cell ∧ cell.vm.isStatics = false ∧ s.vm.findClass "java/lang/String" = some cell.cls :=
  vk_recv ((xs_S h hAt).narrow hA) hi hS
