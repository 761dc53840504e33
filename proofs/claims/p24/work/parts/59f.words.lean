set_option maxRecDepth 20000 in
theorem wsLx_1 : ∀ w ∈ wsX10, w ∈ lw_tbl := by decide +kernel
set_option maxRecDepth 20000 in
theorem wsLx_0 : ∀ w ∈ wsX00, w ∈ lw_tbl := by decide +kernel
theorem wsL_law_in : ∀ w ∈ wsL_law, w ∈ lw_tbl := List.forall_mem_append.mpr ⟨List.forall_mem_append.mpr ⟨List.forall_mem_append.mpr ⟨List.forall_mem_append.mpr ⟨wsLi_1, List.forall_mem_append.mpr ⟨wsLi_2, List.forall_mem_append.mpr ⟨wsLi_3, List.forall_mem_append.mpr ⟨wsLi_4, List.forall_mem_append.mpr ⟨wsLi_5, List.forall_mem_append.mpr ⟨wsLi_6, List.forall_mem_append.mpr ⟨wsLi_7, List.forall_mem_append.mpr ⟨wsLi_8, List.forall_mem_append.mpr ⟨wsLi_9, List.forall_mem_append.mpr ⟨wsLi_10, List.forall_mem_append.mpr ⟨wsLi_11, List.forall_mem_append.mpr ⟨wsLi_12, wsLi_13⟩⟩⟩⟩⟩⟩⟩⟩⟩⟩⟩⟩, wsLx_1⟩, wsLx_0⟩, fun _ h => absurd h List.not_mem_nil⟩
theorem inlX0 : ∀ w ∈ wsX00, w ∈ wsL_law := fun _ h => List.mem_append_left _ (List.mem_append_right _ h)
theorem inX0 : ∀ w ∈ wsX00, w ∈ lw_tbl := fun w h => wsL_law_in w (inlX0 w h)
theorem inlX1 : ∀ w ∈ wsX10, w ∈ wsL_law := fun _ h => List.mem_append_left _ (List.mem_append_left _ (List.mem_append_right _ h))
theorem inX1 : ∀ w ∈ wsX10, w ∈ lw_tbl := fun w h => wsL_law_in w (inlX1 w h)
theorem inX2 : ∀ w ∈ wsX20, w ∈ lw_tbl := by decide +kernel
theorem inJ9 : ∀ w ∈ wsJ90, w ∈ lw_tbl := by decide +kernel
theorem inJ10 : ∀ w ∈ wsJ100, w ∈ lw_tbl := by decide +kernel
