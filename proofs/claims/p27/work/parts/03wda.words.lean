theorem goodIn_1 {big : List Cond} {w : Cond} (i : Nat) (h : big[i]? = some w) (g : goodWord w = true) : GoodIn big [w] := fun v hv => by
  rw [List.mem_singleton] at hv
  subst hv
  exact ⟨List.mem_of_getElem? h, good_of_word g⟩
set_option maxRecDepth 20000 in
theorem wsL_law_r17a_in : GoodIn lw_tbl [Cond.instanceMethod yX5_cell, Cond.selects RX5 yX5_cell yX5_cell, Cond.code yX5_cell cX5_cell 4 (some .int), Cond.methodLink RX5 82 yX4_ofCell, Cond.instanceMethod yX4_ofCell, Cond.selects RX4 yX4_ofCell yX4_ofCell, Cond.code yX4_ofCell cX4_ofCell 8 (some .int), Cond.methodLink RX4 21 yX3_isCell, Cond.static yX3_isCell, Cond.code yX3_isCell cX3_isCell 1 (some .boolean), Cond.methodLink RL 128 yL_acts, Cond.static yL_acts] := goodIn_r _ [333, 334, 335, 336, 337, 338, 339, 340, 341, 342, 471, 472] (by decide +kernel) (by decide +kernel)
set_option maxRecDepth 20000 in
theorem wsL_law_r17b_in : GoodIn lw_tbl [Cond.code yL_acts cL_acts 14 (some .boolean)] := goodIn_1 473 rfl rfl
set_option maxRecDepth 20000 in
theorem wsL_law_r17c_in : GoodIn lw_tbl [Cond.methodLink RL 83 yL_cells, Cond.static yL_cells, Cond.code yL_cells cL_cells 11 (some .boolean), Cond.methodLink RL 80 yX5_write, Cond.instanceMethod yX5_write, Cond.selects RX5 yX5_write yX5_write, Cond.code yX5_write cX5_write 4 (some .int), Cond.methodLink RX5 53 yX0_note, Cond.instanceMethod yX0_note, Cond.selects RX0 yX0_note yX0_note, Cond.code yX0_note cX0_note 3 none] := goodIn_r _ [474, 475, 476, 477, 478, 479, 480, 481, 482, 483, 484] (by decide +kernel) (by decide +kernel)
theorem wsL_law_r17_in : GoodIn lw_tbl wsL_law_r17 := (goodIn_app wsL_law_r17a_in (goodIn_app wsL_law_r17b_in wsL_law_r17c_in))
