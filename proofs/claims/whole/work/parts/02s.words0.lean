/-- the words of all methods -/
def zv_U : List Cond := lw_tbl.filter goodWord
theorem zv_Ug : ∀ w ∈ zv_U, (w.onTables && w.keeps) = true ∨ ∃ ty, w = .arrayClass ty := fun w h => good_of_word (List.mem_filter.mp h).2
theorem zv_in {w : Cond} {n : Nat} (h : lw_tbl[n]? = some w) (g : goodWord w = true) : w ∈ zv_U := List.mem_filter.mpr ⟨List.mem_of_getElem? h, g⟩
theorem zv_inL (ws : List Cond) (ps : List Nat) (hp : ws = ps.filterMap (fun i => lw_tbl[i]?)) (h : ws.all goodWord = true) : ∀ w ∈ ws, w ∈ zv_U := fun w hw => by
  refine List.mem_filter.mpr ⟨?_, List.all_eq_true.mp h w hw⟩
  rw [hp] at hw
  obtain ⟨i, -, hi⟩ := List.mem_filterMap.mp hw
  exact List.mem_of_getElem? hi
