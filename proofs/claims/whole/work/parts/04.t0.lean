/-! the tables' good words -/
def T0 : List Cond := lw_tbl.filter goodWord
theorem T0_of {w : Cond} {i : Nat} (h : lw_tbl[i]? = some w) (hg : goodWord w = true) : w ∈ T0 := List.mem_filter.mpr ⟨List.mem_of_getElem? h, hg⟩
theorem T0_good : GoodIn T0 T0 := fun w h => ⟨h, good_of_word (List.mem_filter.mp h).2⟩
theorem T0_lw {w : Cond} (h : w ∈ T0) : w ∈ lw_tbl := (List.mem_filter.mp h).1
theorem T0_gw {w : Cond} (h : w ∈ T0) : GoodIn T0 (w :: T0) := fun v hv => by
  rcases List.mem_cons.mp hv with rfl | h2
  · exact T0_good _ h
  · exact T0_good _ h2
