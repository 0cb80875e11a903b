/-- the good words of the tables: every contract carries them all -/
def tb_all : List Cond := lw_tbl.filter goodWord
theorem tb_in {w : Cond} (h : w ∈ lw_tbl) (g : goodWord w = true) : w ∈ tb_all := List.mem_filter.mpr ⟨h, g⟩
theorem tb_gd {w : Cond} (h : w ∈ tb_all) : (w.onTables && w.keeps) = true ∨ ∃ ty, w = .arrayClass ty := good_of_word (List.mem_filter.mp h).2
theorem tb_good {c w : Cond} (h : w ∈ tb_all) : GoodIn (c :: tb_all) (w :: tb_all) := by
  intro x hx
  have hx2 : x ∈ tb_all := by
    rcases List.mem_cons.mp hx with e | e
    · rw [e]; exact h
    · exact e
  exact ⟨List.mem_cons_of_mem _ hx2, tb_gd hx2⟩
