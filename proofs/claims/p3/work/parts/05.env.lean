/-- the law's start: the tables' words, what the Statement gives, the classes' numbers, the array classes -/
def xb_Env (l : Launch) (s0 : State) (dC : Nat → ClassId) (dI : Nat → Nat → Nat) (tys : List (ClassId × FieldType)) : Prop :=
  l.flags = flags0 ∧ (∃ a0 : Array Value, (∀ w ∈ lw_tbl, w.before a0 s0 = true) ∧ (Jvm.Cond.and given_1 narrow_1).before a0 s0 = true) ∧ va_K (dC, dI) classes tys s0
abbrev xtys (cI cC cL cO : ClassId) : List (ClassId × FieldType) := [(cI, .int), (cC, .char), (cL, .long), (cO, .object "java/lang/Object")]
/-- a state behind the law's start: warmer tables; what was there is as it was -/
def xb_At (s0 U : State) : Prop := s0.WarmedH U.vm ∧ s0.heap.size ≤ U.heap.size ∧ ∀ q : Nat, q < s0.heap.size → U.heap[q]? = s0.heap[q]?
theorem xb_hts {l : Launch} {s0 U : State} {dC : Nat → ClassId} {dI : Nat → Nat → Nat} {tys : List (ClassId × FieldType)} (E : xb_Env l s0 dC dI tys) (h : xb_At s0 U) (a : Array Value) : ∀ w ∈ lw_gd, w.before a U = true := by
  obtain ⟨-, ⟨a0, h1, -⟩, -⟩ := E
  intro w hw
  obtain ⟨hm, hg⟩ := List.mem_filter.mp hw
  exact word_at h.1 (good_of_word hg) (h1 w hm)
theorem xb_K {l : Launch} {s0 U : State} {dC : Nat → ClassId} {dI : Nat → Nat → Nat} {tys : List (ClassId × FieldType)} (E : xb_Env l s0 dC dI tys) (h : xb_At s0 U) : va_K (dC, dI) classes tys U := va_K.moved h.1.alike E.2.2
theorem xb_nest {l : Launch} {s0 U : State} {dC : Nat → ClassId} {dI : Nat → Nat → Nat} {tys : List (ClassId × FieldType)} (E : xb_Env l s0 dC dI tys) (h : xb_At s0 U) {a : String} {i : Nat} {x : MethodName} {b : String} (hw : Cond.methodLinkNest a i x b ∈ lw_tbl) : va_Nw (.methodLinkNest a i x b) U := by
  obtain ⟨-, ⟨a0, h1, -⟩, -⟩ := E
  exact va_Nw.warmM h.1 (va_Nw.of rfl (h1 _ hw))
theorem xb_at0 {s0 s U : State} (h : xb_At s0 s) (hU : U.heap = s.heap) (hW : s.WarmedH U.vm) : xb_At s0 U :=
  ⟨State.WarmedH.trans h.1 hW, by rw [hU]; exact h.2.1, fun q hq => by rw [hU]; exact h.2.2 q hq⟩
theorem xb_atS {s0 s U : State} {A : Nat → Prop} {H : Heap} {locs : List Loc} (h : xb_At s0 s) (hS : va_S A s.heap H locs) (hA : ∀ q, A q → s0.heap.size ≤ q) (hU : U.heap = H) (hW : s.WarmedH U.vm) : xb_At s0 U :=
  ⟨State.WarmedH.trans h.1 hW, by rw [hU]; exact Nat.le_trans h.2.1 hS.1, fun q hq => by
    rw [hU, hS.2.1 q (Nat.lt_of_lt_of_le hq h.2.1) (fun a => absurd (hA q a) (Nat.not_le.mpr hq))]
    exact h.2.2 q hq⟩
/-- an end that answers v and leaves the heap -/
def xb_R (v : Option Value) : Array Value → State → Outcome → State → Prop := fun _ st o t => o = .returned v ∧ t.heap = st.heap
def xb_bi (b : Bool) : Int32 := if b then 1 else 0
theorem xb_bi_n (b : Bool) : narrow .boolean (.int (xb_bi b)) = .int (xb_bi b) := by cases b <;> rfl
theorem xb_bi_f {b : Bool} : xb_bi b = 0 ↔ ¬ b = true := by cases b <;> decide
theorem xb_bi_t {b : Bool} : ¬ xb_bi b = 0 ↔ b = true := by cases b <;> decide
section XB
variable {p : Program} {l : Launch} {e : Env} {R : Room} {s : State} {m : MethodId} {args : Array Value} {below : List Frame} {meth : Method} {c : Code} {H : Heap} {locs : List Loc} {cells slots : Nat} {Q : State → Prop} {pc : Nat} {ls : Array Slot} {rest st0 : List Value} {a : Array Value}
theorem xb_rd {v : Option Value} (hr : CallRun p l e R s m args below meth c H locs cells slots 0 0 (F0 m pc ls st0) rest (xb_R v a) (fun _ => False))
    (kk : W p l e R s m args below meth c H locs cells slots Q (F0 m (pc + 3) ls (v.toList ++ rest))) : W p l e R s m args below meth c H locs cells slots Q (F0 m pc ls st0) := by
  intro T hT X
  obtain ⟨w, st₀, t, T', L, h0, X', hL, e1, ⟨hv, hh⟩, st⟩ := hr T hT X
  cases hv
  obtain ⟨t2, a1, b1⟩ := kk T' (by rw [e1, hh, h0]) (Stand.forget X' (fun q h => (hL q h).elim))
  exact ⟨t2, st t2 a1, b1⟩
theorem xb_rdN {v : Option Value} (hr : va_Run p l e R s m args below meth c H locs cells slots 0 0 (F0 m pc ls st0) rest (xb_R v a) (fun _ => False))
    (kk : W p l e R s m args below meth c H locs cells slots Q (F0 m (pc + 3) ls (v.toList ++ rest))) : W p l e R s m args below meth c H locs cells slots Q (F0 m pc ls st0) := by
  intro T hT X
  obtain ⟨w, st₀, t, T', L, h0, X', hL, e1, e2, ⟨hv, hh⟩, st⟩ := hr T hT X
  cases hv
  obtain ⟨t2, a1, b1⟩ := kk T' (by rw [e1, hh, h0]) (Stand.forget X' (fun q h => (hL q h).elim))
  exact ⟨t2, st t2 a1, b1⟩
end XB
