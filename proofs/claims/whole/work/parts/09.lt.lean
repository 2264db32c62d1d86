/-! ===== G: what the kit's W says, with heap, frame and locals hidden behind lists ===== -/
/-- the tables' good words; a choice, so that no one unfolds the list -/
theorem LT_ex : ∃ x : List Cond, x = lw_tbl.filter goodWord := ⟨_, rfl⟩
noncomputable def LT : List Cond := Classical.choose LT_ex
theorem LT_eq : LT = lw_tbl.filter goodWord := Classical.choose_spec LT_ex
theorem LT_of {w : Cond} (i : Nat) (h : lw_tbl[i]? = some w) (hg : goodWord w = true) : w ∈ LT := LT_eq ▸ List.mem_filter.mpr ⟨List.mem_of_getElem? h, hg⟩
theorem LT_good {w : Cond} (h : w ∈ LT) : (w.onTables && w.keeps) = true ∨ ∃ ty, w = .arrayClass ty := good_of_word (List.mem_filter.mp (LT_eq ▸ h)).2
theorem LT_in {ws : List Cond} (h : ∀ w ∈ ws, w ∈ LT) : GoodIn LT ws := fun w hw => ⟨h w hw, LT_good (h w hw)⟩
theorem LT_in2 {w0 : Cond} {ws : List Cond} (h : ∀ w ∈ ws, w ∈ LT) : GoodIn (w0 :: LT) ws := fun w hw => ⟨List.mem_cons_of_mem _ (h w hw), LT_good (h w hw)⟩
