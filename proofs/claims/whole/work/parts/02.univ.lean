/-- the words of all contracts: the tables' words that hold over calls -/
def xU : List Cond := lw_tbl.filter goodWord
theorem xU_in {w : Cond} (h : w ∈ lw_tbl) (hg : goodWord w = true) : w ∈ xU := List.mem_filter.mpr ⟨h, hg⟩
theorem xU_good {big : List Cond} (hb : ∀ w ∈ xU, w ∈ big) : GoodIn big xU := fun w hw => ⟨hb w hw, good_of_word (List.mem_filter.mp hw).2⟩
theorem xU_goodc {big : List Cond} {w0 : Cond} (hb : ∀ w ∈ xU, w ∈ big) (h0 : w0 ∈ xU) : GoodIn big (w0 :: xU) := fun w hw => by
  rcases List.mem_cons.mp hw with h | h
  · subst h; exact xU_good hb w h0
  · exact xU_good hb w h
