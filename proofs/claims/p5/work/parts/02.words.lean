/-! the words of the tables that stay true over a call: a method's words may be its own code and all of these -/
def wd_tbl : List Cond := lw_tbl.filter goodWord
def wd_ws (y : MethodName) (b : ByteArray) (n : Nat) (r : Option FieldType) : List Cond := Cond.code y b n r :: wd_tbl
theorem wd_of {w : Cond} (k : Nat) (h : lw_tbl[k]? = some w) (g : goodWord w = true) : w ∈ wd_tbl := List.mem_filter.mpr ⟨List.mem_of_getElem? h, g⟩
theorem wd_lw {w : Cond} (h : w ∈ wd_tbl) : w ∈ lw_tbl := (List.mem_filter.mp h).1
theorem wd_gd {w : Cond} (h : w ∈ wd_tbl) : (w.onTables && w.keeps) = true ∨ ∃ ty, w = .arrayClass ty := good_of_word (List.mem_filter.mp h).2
theorem wd_in {big : List Cond} {y : MethodName} {b : ByteArray} {n : Nat} {r : Option FieldType} (hb : ∀ w ∈ wd_tbl, w ∈ big) (h : Cond.code y b n r ∈ wd_tbl) : GoodIn big (wd_ws y b n r) := by
  intro w hw
  rcases List.mem_cons.mp hw with rfl | hw
  · exact ⟨hb _ h, wd_gd h⟩
  · exact ⟨hb _ hw, wd_gd hw⟩
theorem wd_mem (ws : List Cond) (ps : List Nat) (hp : ws = ps.filterMap (fun i => lw_tbl[i]?)) (h : ws.all goodWord = true) : ∀ w ∈ ws, w ∈ wd_tbl := by
  intro w hw
  have h1 := List.all_eq_true.mp h w hw
  rw [hp] at hw
  obtain ⟨i, -, hi⟩ := List.mem_filterMap.mp hw
  exact wd_of i hi h1
