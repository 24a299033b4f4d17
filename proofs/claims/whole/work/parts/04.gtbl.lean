/-- the tables' words that every state behind keeps -/
def g_tbl : List Cond := lw_tbl.filter goodWord
theorem g_mem {w : Cond} (h : w ∈ lw_tbl) (hg : goodWord w = true) : w ∈ g_tbl := List.mem_filter.mpr ⟨h, hg⟩
theorem g_at {w : Cond} (i : Nat) (h : lw_tbl[i]? = some w) (hg : goodWord w = true) : w ∈ g_tbl := g_mem (List.mem_of_getElem? h) hg
theorem g_sub {w : Cond} (h : w ∈ g_tbl) : w ∈ lw_tbl := (List.mem_filter.mp h).1
theorem g_good : ∀ w ∈ g_tbl, (w.onTables && w.keeps) = true ∨ ∃ ty, w = .arrayClass ty := fun w h => good_of_word (List.mem_filter.mp h).2
theorem g_all {ws : List Cond} (h : ∀ w ∈ ws, w ∈ lw_tbl) (hg : ws.all goodWord = true) : ∀ w ∈ ws, w ∈ g_tbl := fun w hw => g_mem (h w hw) (List.all_eq_true.mp hg w hw)
theorem ginX0 : ∀ w ∈ wsX00, w ∈ g_tbl := g_all inX0 (by decide +kernel)
theorem ginX1 : ∀ w ∈ wsX10, w ∈ g_tbl := g_all inX1 (by decide +kernel)
theorem ginX2 : ∀ w ∈ wsX20, w ∈ g_tbl := g_all inX2 (by decide +kernel)
theorem ginX3 : ∀ w ∈ wsX30, w ∈ g_tbl := g_all inX3 (by decide +kernel)
theorem ginX4 : ∀ w ∈ wsX40, w ∈ g_tbl := g_all inX4 (by decide +kernel)
theorem ginX5 : ∀ w ∈ wsX50, w ∈ g_tbl := g_all inX5 (by decide +kernel)
theorem ginX6 : ∀ w ∈ wsX60, w ∈ g_tbl := g_all inX6 (by decide +kernel)
theorem ginX7 : ∀ w ∈ wsX70, w ∈ g_tbl := g_all inX7 (by decide +kernel)
