/-- those of the tables' words that ride -/
def lw_gd : List Cond := lw_tbl.filter goodWord
theorem xb_mem {w : Cond} (i : Nat) (h : lw_tbl[i]? = some w) (hg : goodWord w = true) : w ∈ lw_gd := List.mem_filter.mpr ⟨List.mem_of_getElem? h, hg⟩
theorem xb_gi {ws : List Cond} (h : ∀ w ∈ ws, w ∈ lw_gd) : GoodIn lw_gd ws := fun w hw => ⟨h w hw, good_of_word (List.mem_filter.mp (h w hw)).2⟩
