set_option maxRecDepth 20000 in
theorem wsLi_10a : ∀ w ∈ ([Cond.static yL_acts] : List Cond), w ∈ lw_tbl := by decide +kernel
set_option maxRecDepth 20000 in
theorem wsLi_10c : Cond.code yL_acts cL_acts 16 (some .boolean) ∈ lw_tbl := List.mem_of_getElem? (i := 233) rfl
set_option maxRecDepth 20000 in
theorem wsLi_10b : ∀ w ∈ ([Cond.constant RL 53 (10000000), Cond.constant RL 70 (-100003), Cond.methodLink RL 54 yL_low, Cond.static yL_low, Cond.code yL_low cL_low 2 (some .int), Cond.methodLink RL 57 yX1_setDrift, Cond.instanceMethod yX1_setDrift, Cond.selects RX1 yX1_setDrift yX1_setDrift, Cond.code yX1_setDrift cX1_setDrift 4 (some .int), Cond.methodLink RX1 41 yX1_isWithin, Cond.static yX1_isWithin, Cond.code yX1_isWithin cX1_isWithin 3 (some .boolean), Cond.methodLink RX1 46 yX1_remember, Cond.instanceMethod yX1_remember, Cond.selects RX1 yX1_remember yX1_remember, Cond.code yX1_remember cX1_remember 2 none, Cond.methodLink RX1 138 yX1_slotAfter, Cond.instanceMethod yX1_slotAfter, Cond.selects RX1 yX1_slotAfter yX1_slotAfter, Cond.code yX1_slotAfter cX1_slotAfter 2 (some .int), Cond.methodLink RX1 214 yJ9_floorMod_7cf53, Cond.static yJ9_floorMod_7cf53] : List Cond), w ∈ lw_tbl := by decide +kernel
theorem wsLi_10 : ∀ w ∈ wsL_law_r10, w ∈ lw_tbl := by
  show ∀ w ∈ [Cond.static yL_acts] ++ Cond.code yL_acts cL_acts 16 (some .boolean) :: [Cond.constant RL 53 (10000000), Cond.constant RL 70 (-100003), Cond.methodLink RL 54 yL_low, Cond.static yL_low, Cond.code yL_low cL_low 2 (some .int), Cond.methodLink RL 57 yX1_setDrift, Cond.instanceMethod yX1_setDrift, Cond.selects RX1 yX1_setDrift yX1_setDrift, Cond.code yX1_setDrift cX1_setDrift 4 (some .int), Cond.methodLink RX1 41 yX1_isWithin, Cond.static yX1_isWithin, Cond.code yX1_isWithin cX1_isWithin 3 (some .boolean), Cond.methodLink RX1 46 yX1_remember, Cond.instanceMethod yX1_remember, Cond.selects RX1 yX1_remember yX1_remember, Cond.code yX1_remember cX1_remember 2 none, Cond.methodLink RX1 138 yX1_slotAfter, Cond.instanceMethod yX1_slotAfter, Cond.selects RX1 yX1_slotAfter yX1_slotAfter, Cond.code yX1_slotAfter cX1_slotAfter 2 (some .int), Cond.methodLink RX1 214 yJ9_floorMod_7cf53, Cond.static yJ9_floorMod_7cf53], w ∈ lw_tbl
  exact List.forall_mem_append.mpr ⟨wsLi_10a, List.forall_mem_cons.mpr ⟨wsLi_10c, wsLi_10b⟩⟩
set_option maxRecDepth 20000 in
theorem wsLi_11 : ∀ w ∈ wsL_law_r11, w ∈ lw_tbl := by decide +kernel
set_option maxRecDepth 20000 in
theorem wsLi_12 : ∀ w ∈ wsL_law_r12, w ∈ lw_tbl := by decide +kernel
