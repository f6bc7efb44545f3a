/-! The rows, decided. Printed by gen.py. -/
theorem mC_init_rows : (cx_t mC_init).all (cx_row mC_init) = true := by decide +kernel
theorem mC_init_mo : cx_mo mC_init := ⟨by decide +kernel, List.all_eq_true.mp mC_init_rows⟩
set_option maxRecDepth 100000 in
theorem mC_init_ok : cx_mok mC_init := ⟨cx_in1 (i := 17) (by rfl) rfl, by decide, mC_init_mo⟩
theorem mC_input_rows : (cx_t mC_input).all (cx_row mC_input) = true := by decide +kernel
theorem mC_input_mo : cx_mo mC_input := ⟨by decide +kernel, List.all_eq_true.mp mC_input_rows⟩
set_option maxRecDepth 100000 in
theorem mC_input_ok : cx_mok mC_input := ⟨cx_in1 (i := 290) (by rfl) rfl, by decide, mC_input_mo⟩
theorem mC_latch_rows : (cx_t mC_latch).all (cx_row mC_latch) = true := by decide +kernel
theorem mC_latch_mo : cx_mo mC_latch := ⟨by decide +kernel, List.all_eq_true.mp mC_latch_rows⟩
set_option maxRecDepth 100000 in
theorem mC_latch_ok : cx_mok mC_latch := ⟨cx_in1 (i := 322) (by rfl) rfl, by decide, mC_latch_mo⟩
theorem mC_function_rows : (cx_t mC_function).all (cx_row mC_function) = true := by decide +kernel
theorem mC_function_mo : cx_mo mC_function := ⟨by decide +kernel, List.all_eq_true.mp mC_function_rows⟩
set_option maxRecDepth 100000 in
theorem mC_function_ok : cx_mok mC_function := ⟨cx_in1 (i := 334) (by rfl) rfl, by decide, mC_function_mo⟩
theorem mC_drive_rows : (cx_t mC_drive).all (cx_row mC_drive) = true := by decide +kernel
theorem mC_drive_mo : cx_mo mC_drive := ⟨by decide +kernel, List.all_eq_true.mp mC_drive_rows⟩
set_option maxRecDepth 100000 in
theorem mC_drive_ok : cx_mok mC_drive := ⟨cx_in1 (i := 390) (by rfl) rfl, by decide, mC_drive_mo⟩
theorem mC_output_rows : (cx_t mC_output).all (cx_row mC_output) = true := by decide +kernel
theorem mC_output_mo : cx_mo mC_output := ⟨by decide +kernel, List.all_eq_true.mp mC_output_rows⟩
set_option maxRecDepth 100000 in
theorem mC_output_ok : cx_mok mC_output := ⟨cx_in1 (i := 398) (by rfl) rfl, by decide, mC_output_mo⟩
theorem mC_cell_rows : (cx_t mC_cell).all (cx_row mC_cell) = true := by decide +kernel
theorem mC_cell_mo : cx_mo mC_cell := ⟨by decide +kernel, List.all_eq_true.mp mC_cell_rows⟩
set_option maxRecDepth 100000 in
theorem mC_cell_ok : cx_mok mC_cell := ⟨cx_in1 (i := 406) (by rfl) rfl, by decide, mC_cell_mo⟩
theorem mC_nodes_rows : (cx_t mC_nodes).all (cx_row mC_nodes) = true := by decide +kernel
theorem mC_nodes_mo : cx_mo mC_nodes := ⟨by decide +kernel, List.all_eq_true.mp mC_nodes_rows⟩
set_option maxRecDepth 100000 in
theorem mC_nodes_ok : cx_mok mC_nodes := ⟨cx_in1 (i := 429) (by rfl) rfl, by decide, mC_nodes_mo⟩
theorem mC_nodeOf_rows : (cx_t mC_nodeOf).all (cx_row mC_nodeOf) = true := by decide +kernel
theorem mC_nodeOf_mo : cx_mo mC_nodeOf := ⟨by decide +kernel, List.all_eq_true.mp mC_nodeOf_rows⟩
set_option maxRecDepth 100000 in
theorem mC_nodeOf_ok : cx_mok mC_nodeOf := ⟨cx_in1 (i := 434) (by rfl) rfl, by decide, mC_nodeOf_mo⟩
theorem mC_part_rows : (cx_t mC_part).all (cx_row mC_part) = true := by decide +kernel
theorem mC_part_mo : cx_mo mC_part := ⟨by decide +kernel, List.all_eq_true.mp mC_part_rows⟩
set_option maxRecDepth 100000 in
theorem mC_part_ok : cx_mok mC_part := ⟨cx_in1 (i := 443) (by rfl) rfl, by decide, mC_part_mo⟩
theorem mC_map_rows : (cx_t mC_map).all (cx_row mC_map) = true := by decide +kernel
theorem mC_map_mo : cx_mo mC_map := ⟨by decide +kernel, List.all_eq_true.mp mC_map_rows⟩
set_option maxRecDepth 100000 in
theorem mC_map_ok : cx_mok mC_map := ⟨cx_in1 (i := 459) (by rfl) rfl, by decide, mC_map_mo⟩
theorem mC_area_rows : (cx_t mC_area).all (cx_row mC_area) = true := by decide +kernel
theorem mC_area_mo : cx_mo mC_area := ⟨by decide +kernel, List.all_eq_true.mp mC_area_rows⟩
set_option maxRecDepth 100000 in
theorem mC_area_ok : cx_mok mC_area := ⟨cx_in1 (i := 750) (by rfl) rfl, by decide, mC_area_mo⟩
theorem mC_cellAt_rows : (cx_t mC_cellAt).all (cx_row mC_cellAt) = true := by decide +kernel
theorem mC_cellAt_mo : cx_mo mC_cellAt := ⟨by decide +kernel, List.all_eq_true.mp mC_cellAt_rows⟩
set_option maxRecDepth 100000 in
theorem mC_cellAt_ok : cx_mok mC_cellAt := ⟨cx_in1 (i := 758) (by rfl) rfl, by decide, mC_cellAt_mo⟩
theorem mC_period_rows : (cx_t mC_period).all (cx_row mC_period) = true := by decide +kernel
theorem mC_period_mo : cx_mo mC_period := ⟨by decide +kernel, List.all_eq_true.mp mC_period_rows⟩
set_option maxRecDepth 100000 in
theorem mC_period_ok : cx_mok mC_period := ⟨cx_in1 (i := 767) (by rfl) rfl, by decide, mC_period_mo⟩
theorem mC_shortest_rows : (cx_t mC_shortest).all (cx_row mC_shortest) = true := by decide +kernel
theorem mC_shortest_mo : cx_mo mC_shortest := ⟨by decide +kernel, List.all_eq_true.mp mC_shortest_rows⟩
set_option maxRecDepth 100000 in
theorem mC_shortest_ok : cx_mok mC_shortest := ⟨cx_in1 (i := 775) (by rfl) rfl, by decide, mC_shortest_mo⟩
theorem mC_moves_rows : (cx_t mC_moves).all (cx_row mC_moves) = true := by decide +kernel
theorem mC_moves_mo : cx_mo mC_moves := ⟨by decide +kernel, List.all_eq_true.mp mC_moves_rows⟩
set_option maxRecDepth 100000 in
theorem mC_moves_ok : cx_mok mC_moves := ⟨cx_in1 (i := 783) (by rfl) rfl, by decide, mC_moves_mo⟩
theorem mC_latches_rows : (cx_t mC_latches).all (cx_row mC_latches) = true := by decide +kernel
theorem mC_latches_mo : cx_mo mC_latches := ⟨by decide +kernel, List.all_eq_true.mp mC_latches_rows⟩
set_option maxRecDepth 100000 in
theorem mC_latches_ok : cx_mok mC_latches := ⟨cx_in1 (i := 791) (by rfl) rfl, by decide, mC_latches_mo⟩
theorem mC_clock_rows : (cx_t mC_clock).all (cx_row mC_clock) = true := by decide +kernel
theorem mC_clock_mo : cx_mo mC_clock := ⟨by decide +kernel, List.all_eq_true.mp mC_clock_rows⟩
set_option maxRecDepth 100000 in
theorem mC_clock_ok : cx_mok mC_clock := ⟨cx_in1 (i := 816) (by rfl) rfl, by decide, mC_clock_mo⟩
theorem mC_clockRetimed_rows : (cx_t mC_clockRetimed).all (cx_row mC_clockRetimed) = true := by decide +kernel
theorem mC_clockRetimed_mo : cx_mo mC_clockRetimed := ⟨by decide +kernel, List.all_eq_true.mp mC_clockRetimed_rows⟩
set_option maxRecDepth 100000 in
theorem mC_clockRetimed_ok : cx_mok mC_clockRetimed := ⟨cx_in1 (i := 836) (by rfl) rfl, by decide, mC_clockRetimed_mo⟩
theorem mC_reset_rows : (cx_t mC_reset).all (cx_row mC_reset) = true := by decide +kernel
theorem mC_reset_mo : cx_mo mC_reset := ⟨by decide +kernel, List.all_eq_true.mp mC_reset_rows⟩
set_option maxRecDepth 100000 in
theorem mC_reset_ok : cx_mok mC_reset := ⟨cx_in1 (i := 866) (by rfl) rfl, by decide, mC_reset_mo⟩
theorem mC_afterAdding_rows : (cx_t mC_afterAdding).all (cx_row mC_afterAdding) = true := by decide +kernel
theorem mC_afterAdding_mo : cx_mo mC_afterAdding := ⟨by decide +kernel, List.all_eq_true.mp mC_afterAdding_rows⟩
set_option maxRecDepth 100000 in
theorem mC_afterAdding_ok : cx_mok mC_afterAdding := ⟨cx_in1 (i := 314) (by rfl) rfl, by decide, mC_afterAdding_mo⟩
theorem mC_isTable_rows : (cx_t mC_isTable).all (cx_row mC_isTable) = true := by decide +kernel
theorem mC_isTable_mo : cx_mo mC_isTable := ⟨by decide +kernel, List.all_eq_true.mp mC_isTable_rows⟩
set_option maxRecDepth 100000 in
theorem mC_isTable_ok : cx_mok mC_isTable := ⟨cx_in1 (i := 349) (by rfl) rfl, by decide, mC_isTable_mo⟩
theorem mC_connectionOf_rows : (cx_t mC_connectionOf).all (cx_row mC_connectionOf) = true := by decide +kernel
theorem mC_connectionOf_mo : cx_mo mC_connectionOf := ⟨by decide +kernel, List.all_eq_true.mp mC_connectionOf_rows⟩
set_option maxRecDepth 100000 in
theorem mC_connectionOf_ok : cx_mok mC_connectionOf := ⟨cx_in1 (i := 796) (by rfl) rfl, by decide, mC_connectionOf_mo⟩
theorem mGr_init_rows : (cx_t mGr_init).all (cx_row mGr_init) = true := by decide +kernel
theorem mGr_init_mo : cx_mo mGr_init := ⟨by decide +kernel, List.all_eq_true.mp mGr_init_rows⟩
set_option maxRecDepth 100000 in
theorem mGr_init_ok : cx_mok mGr_init := ⟨cx_in1 (i := 25) (by rfl) rfl, by decide, mGr_init_mo⟩
theorem mGr_size_rows : (cx_t mGr_size).all (cx_row mGr_size) = true := by decide +kernel
theorem mGr_size_mo : cx_mo mGr_size := ⟨by decide +kernel, List.all_eq_true.mp mGr_size_rows⟩
set_option maxRecDepth 100000 in
theorem mGr_size_ok : cx_mok mGr_size := ⟨cx_in1 (i := 298) (by rfl) rfl, by decide, mGr_size_mo⟩
theorem mGr_isNode_rows : (cx_t mGr_isNode).all (cx_row mGr_isNode) = true := by decide +kernel
theorem mGr_isNode_mo : cx_mo mGr_isNode := ⟨by decide +kernel, List.all_eq_true.mp mGr_isNode_rows⟩
set_option maxRecDepth 100000 in
theorem mGr_isNode_ok : cx_mok mGr_isNode := ⟨cx_in1 (i := 447) (by rfl) rfl, by decide, mGr_isNode_mo⟩
theorem mGr_isInput_rows : (cx_t mGr_isInput).all (cx_row mGr_isInput) = true := by decide +kernel
theorem mGr_isInput_mo : cx_mo mGr_isInput := ⟨by decide +kernel, List.all_eq_true.mp mGr_isInput_rows⟩
set_option maxRecDepth 100000 in
theorem mGr_isInput_ok : cx_mok mGr_isInput := ⟨cx_in1 (i := 828) (by rfl) rfl, by decide, mGr_isInput_mo⟩
theorem mGr_isLatch_rows : (cx_t mGr_isLatch).all (cx_row mGr_isLatch) = true := by decide +kernel
theorem mGr_isLatch_mo : cx_mo mGr_isLatch := ⟨by decide +kernel, List.all_eq_true.mp mGr_isLatch_rows⟩
set_option maxRecDepth 100000 in
theorem mGr_isLatch_ok : cx_mok mGr_isLatch := ⟨cx_in1 (i := 475) (by rfl) rfl, by decide, mGr_isLatch_mo⟩
theorem mGr_isInv_rows : (cx_t mGr_isInv).all (cx_row mGr_isInv) = true := by decide +kernel
theorem mGr_isInv_mo : cx_mo mGr_isInv := ⟨by decide +kernel, List.all_eq_true.mp mGr_isInv_rows⟩
set_option maxRecDepth 100000 in
theorem mGr_isInv_ok : cx_mok mGr_isInv := ⟨cx_in1 (i := 371) (by rfl) rfl, by decide, mGr_isInv_mo⟩
theorem mGr_isNand_rows : (cx_t mGr_isNand).all (cx_row mGr_isNand) = true := by decide +kernel
theorem mGr_isNand_mo : cx_mo mGr_isNand := ⟨by decide +kernel, List.all_eq_true.mp mGr_isNand_rows⟩
set_option maxRecDepth 100000 in
theorem mGr_isNand_ok : cx_mok mGr_isNand := ⟨cx_in1 (i := 529) (by rfl) rfl, by decide, mGr_isNand_mo⟩
theorem mGr_isLogic_rows : (cx_t mGr_isLogic).all (cx_row mGr_isLogic) = true := by decide +kernel
theorem mGr_isLogic_mo : cx_mo mGr_isLogic := ⟨by decide +kernel, List.all_eq_true.mp mGr_isLogic_rows⟩
set_option maxRecDepth 100000 in
theorem mGr_isLogic_ok : cx_mok mGr_isLogic := ⟨cx_in1 (i := 524) (by rfl) rfl, by decide, mGr_isLogic_mo⟩
theorem mGr_x_rows : (cx_t mGr_x).all (cx_row mGr_x) = true := by decide +kernel
theorem mGr_x_mo : cx_mo mGr_x := ⟨by decide +kernel, List.all_eq_true.mp mGr_x_rows⟩
set_option maxRecDepth 100000 in
theorem mGr_x_ok : cx_mok mGr_x := ⟨cx_in1 (i := 451) (by rfl) rfl, by decide, mGr_x_mo⟩
theorem mGr_y_rows : (cx_t mGr_y).all (cx_row mGr_y) = true := by decide +kernel
theorem mGr_y_mo : cx_mo mGr_y := ⟨by decide +kernel, List.all_eq_true.mp mGr_y_rows⟩
set_option maxRecDepth 100000 in
theorem mGr_y_ok : cx_mok mGr_y := ⟨cx_in1 (i := 455) (by rfl) rfl, by decide, mGr_y_mo⟩
theorem mGr_ordinal_rows : (cx_t mGr_ordinal).all (cx_row mGr_ordinal) = true := by decide +kernel
theorem mGr_ordinal_mo : cx_mo mGr_ordinal := ⟨by decide +kernel, List.all_eq_true.mp mGr_ordinal_rows⟩
set_option maxRecDepth 100000 in
theorem mGr_ordinal_ok : cx_mok mGr_ordinal := ⟨cx_in1 (i := 479) (by rfl) rfl, by decide, mGr_ordinal_mo⟩
theorem mGr_makeInput_rows : (cx_t mGr_makeInput).all (cx_row mGr_makeInput) = true := by decide +kernel
theorem mGr_makeInput_mo : cx_mo mGr_makeInput := ⟨by decide +kernel, List.all_eq_true.mp mGr_makeInput_rows⟩
set_option maxRecDepth 100000 in
theorem mGr_makeInput_ok : cx_mok mGr_makeInput := ⟨cx_in1 (i := 302) (by rfl) rfl, by decide, mGr_makeInput_mo⟩
theorem mGr_makeLatch_rows : (cx_t mGr_makeLatch).all (cx_row mGr_makeLatch) = true := by decide +kernel
theorem mGr_makeLatch_mo : cx_mo mGr_makeLatch := ⟨by decide +kernel, List.all_eq_true.mp mGr_makeLatch_rows⟩
set_option maxRecDepth 100000 in
theorem mGr_makeLatch_ok : cx_mok mGr_makeLatch := ⟨cx_in1 (i := 330) (by rfl) rfl, by decide, mGr_makeLatch_mo⟩
theorem mGr_inv_rows : (cx_t mGr_inv).all (cx_row mGr_inv) = true := by decide +kernel
theorem mGr_inv_mo : cx_mo mGr_inv := ⟨by decide +kernel, List.all_eq_true.mp mGr_inv_rows⟩
set_option maxRecDepth 100000 in
theorem mGr_inv_ok : cx_mok mGr_inv := ⟨cx_in1 (i := 367) (by rfl) rfl, by decide, mGr_inv_mo⟩
theorem mGr_nand_rows : (cx_t mGr_nand).all (cx_row mGr_nand) = true := by decide +kernel
theorem mGr_nand_mo : cx_mo mGr_nand := ⟨by decide +kernel, List.all_eq_true.mp mGr_nand_rows⟩
set_option maxRecDepth 100000 in
theorem mGr_nand_ok : cx_mok mGr_nand := ⟨cx_in1 (i := 379) (by rfl) rfl, by decide, mGr_nand_mo⟩
theorem mGr_findOrMake_rows : (cx_t mGr_findOrMake).all (cx_row mGr_findOrMake) = true := by decide +kernel
theorem mGr_findOrMake_mo : cx_mo mGr_findOrMake := ⟨by decide +kernel, List.all_eq_true.mp mGr_findOrMake_rows⟩
set_option maxRecDepth 100000 in
theorem mGr_findOrMake_ok : cx_mok mGr_findOrMake := ⟨cx_in1 (i := 375) (by rfl) rfl, by decide, mGr_findOrMake_mo⟩
theorem mGr_make_rows : (cx_t mGr_make).all (cx_row mGr_make) = true := by decide +kernel
theorem mGr_make_mo : cx_mo mGr_make := ⟨by decide +kernel, List.all_eq_true.mp mGr_make_rows⟩
set_option maxRecDepth 100000 in
theorem mGr_make_ok : cx_mok mGr_make := ⟨cx_in1 (i := 306) (by rfl) rfl, by decide, mGr_make_mo⟩
theorem mCi_init_rows : (cx_t mCi_init).all (cx_row mCi_init) = true := by decide +kernel
theorem mCi_init_mo : cx_mo mCi_init := ⟨by decide +kernel, List.all_eq_true.mp mCi_init_rows⟩
set_option maxRecDepth 100000 in
theorem mCi_init_ok : cx_mok mCi_init := ⟨cx_in1 (i := 48) (by rfl) rfl, by decide, mCi_init_mo⟩
theorem mCi_isNet_rows : (cx_t mCi_isNet).all (cx_row mCi_isNet) = true := by decide +kernel
theorem mCi_isNet_mo : cx_mo mCi_isNet := ⟨by decide +kernel, List.all_eq_true.mp mCi_isNet_rows⟩
set_option maxRecDepth 100000 in
theorem mCi_isNet_ok : cx_mok mCi_isNet := ⟨cx_in1 (i := 342) (by rfl) rfl, by decide, mCi_isNet_mo⟩
theorem mCi_netNode_rows : (cx_t mCi_netNode).all (cx_row mCi_netNode) = true := by decide +kernel
theorem mCi_netNode_mo : cx_mo mCi_netNode := ⟨by decide +kernel, List.all_eq_true.mp mCi_netNode_rows⟩
set_option maxRecDepth 100000 in
theorem mCi_netNode_ok : cx_mok mCi_netNode := ⟨cx_in1 (i := 439) (by rfl) rfl, by decide, mCi_netNode_mo⟩
theorem mCi_isOutput_rows : (cx_t mCi_isOutput).all (cx_row mCi_isOutput) = true := by decide +kernel
theorem mCi_isOutput_mo : cx_mo mCi_isOutput := ⟨by decide +kernel, List.all_eq_true.mp mCi_isOutput_rows⟩
set_option maxRecDepth 100000 in
theorem mCi_isOutput_ok : cx_mok mCi_isOutput := ⟨cx_in1 (i := 800) (by rfl) rfl, by decide, mCi_isOutput_mo⟩
theorem mCi_outputCount_rows : (cx_t mCi_outputCount).all (cx_row mCi_outputCount) = true := by decide +kernel
theorem mCi_outputCount_mo : cx_mo mCi_outputCount := ⟨by decide +kernel, List.all_eq_true.mp mCi_outputCount_rows⟩
set_option maxRecDepth 100000 in
theorem mCi_outputCount_ok : cx_mok mCi_outputCount := ⟨cx_in1 (i := 499) (by rfl) rfl, by decide, mCi_outputCount_mo⟩
theorem mCi_outputNode_rows : (cx_t mCi_outputNode).all (cx_row mCi_outputNode) = true := by decide +kernel
theorem mCi_outputNode_mo : cx_mo mCi_outputNode := ⟨by decide +kernel, List.all_eq_true.mp mCi_outputNode_rows⟩
set_option maxRecDepth 100000 in
theorem mCi_outputNode_ok : cx_mok mCi_outputNode := ⟨cx_in1 (i := 503) (by rfl) rfl, by decide, mCi_outputNode_mo⟩
theorem mCi_latchCount_rows : (cx_t mCi_latchCount).all (cx_row mCi_latchCount) = true := by decide +kernel
theorem mCi_latchCount_mo : cx_mo mCi_latchCount := ⟨by decide +kernel, List.all_eq_true.mp mCi_latchCount_rows⟩
set_option maxRecDepth 100000 in
theorem mCi_latchCount_ok : cx_mok mCi_latchCount := ⟨cx_in1 (i := 507) (by rfl) rfl, by decide, mCi_latchCount_mo⟩
theorem mCi_drivingNode_rows : (cx_t mCi_drivingNode).all (cx_row mCi_drivingNode) = true := by decide +kernel
theorem mCi_drivingNode_mo : cx_mo mCi_drivingNode := ⟨by decide +kernel, List.all_eq_true.mp mCi_drivingNode_rows⟩
set_option maxRecDepth 100000 in
theorem mCi_drivingNode_ok : cx_mok mCi_drivingNode := ⟨cx_in1 (i := 471) (by rfl) rfl, by decide, mCi_drivingNode_mo⟩
theorem mCi_initialValue_rows : (cx_t mCi_initialValue).all (cx_row mCi_initialValue) = true := by decide +kernel
theorem mCi_initialValue_mo : cx_mo mCi_initialValue := ⟨by decide +kernel, List.all_eq_true.mp mCi_initialValue_rows⟩
set_option maxRecDepth 100000 in
theorem mCi_initialValue_ok : cx_mok mCi_initialValue := ⟨cx_in1 (i := 624) (by rfl) rfl, by decide, mCi_initialValue_mo⟩
theorem mCi_addInput_rows : (cx_t mCi_addInput).all (cx_row mCi_addInput) = true := by decide +kernel
theorem mCi_addInput_mo : cx_mo mCi_addInput := ⟨by decide +kernel, List.all_eq_true.mp mCi_addInput_rows⟩
set_option maxRecDepth 100000 in
theorem mCi_addInput_ok : cx_mok mCi_addInput := ⟨cx_in1 (i := 294) (by rfl) rfl, by decide, mCi_addInput_mo⟩
theorem mCi_addLatch_rows : (cx_t mCi_addLatch).all (cx_row mCi_addLatch) = true := by decide +kernel
theorem mCi_addLatch_mo : cx_mo mCi_addLatch := ⟨by decide +kernel, List.all_eq_true.mp mCi_addLatch_rows⟩
set_option maxRecDepth 100000 in
theorem mCi_addLatch_ok : cx_mok mCi_addLatch := ⟨cx_in1 (i := 326) (by rfl) rfl, by decide, mCi_addLatch_mo⟩
theorem mCi_countArguments_rows : (cx_t mCi_countArguments).all (cx_row mCi_countArguments) = true := by decide +kernel
theorem mCi_countArguments_mo : cx_mo mCi_countArguments := ⟨by decide +kernel, List.all_eq_true.mp mCi_countArguments_rows⟩
set_option maxRecDepth 100000 in
theorem mCi_countArguments_ok : cx_mok mCi_countArguments := ⟨cx_in1 (i := 338) (by rfl) rfl, by decide, mCi_countArguments_mo⟩
theorem mCi_addFunction_rows : (cx_t mCi_addFunction).all (cx_row mCi_addFunction) = true := by decide +kernel
theorem mCi_addFunction_mo : cx_mo mCi_addFunction := ⟨by decide +kernel, List.all_eq_true.mp mCi_addFunction_rows⟩
set_option maxRecDepth 100000 in
theorem mCi_addFunction_ok : cx_mok mCi_addFunction := ⟨cx_in1 (i := 353) (by rfl) rfl, by decide, mCi_addFunction_mo⟩
theorem mCi_setDriver_rows : (cx_t mCi_setDriver).all (cx_row mCi_setDriver) = true := by decide +kernel
theorem mCi_setDriver_mo : cx_mo mCi_setDriver := ⟨by decide +kernel, List.all_eq_true.mp mCi_setDriver_rows⟩
set_option maxRecDepth 100000 in
theorem mCi_setDriver_ok : cx_mok mCi_setDriver := ⟨cx_in1 (i := 394) (by rfl) rfl, by decide, mCi_setDriver_mo⟩
theorem mCi_addOutput_rows : (cx_t mCi_addOutput).all (cx_row mCi_addOutput) = true := by decide +kernel
theorem mCi_addOutput_mo : cx_mo mCi_addOutput := ⟨by decide +kernel, List.all_eq_true.mp mCi_addOutput_rows⟩
set_option maxRecDepth 100000 in
theorem mCi_addOutput_ok : cx_mok mCi_addOutput := ⟨cx_in1 (i := 402) (by rfl) rfl, by decide, mCi_addOutput_mo⟩
theorem mCi_hasUndrivenLatch_rows : (cx_t mCi_hasUndrivenLatch).all (cx_row mCi_hasUndrivenLatch) = true := by decide +kernel
theorem mCi_hasUndrivenLatch_mo : cx_mo mCi_hasUndrivenLatch := ⟨by decide +kernel, List.all_eq_true.mp mCi_hasUndrivenLatch_rows⟩
set_option maxRecDepth 100000 in
theorem mCi_hasUndrivenLatch_ok : cx_mok mCi_hasUndrivenLatch := ⟨cx_in1 (i := 463) (by rfl) rfl, by decide, mCi_hasUndrivenLatch_mo⟩
theorem mCi_hasLatchRing_rows : (cx_t mCi_hasLatchRing).all (cx_row mCi_hasLatchRing) = true := by decide +kernel
theorem mCi_hasLatchRing_mo : cx_mo mCi_hasLatchRing := ⟨by decide +kernel, List.all_eq_true.mp mCi_hasLatchRing_rows⟩
set_option maxRecDepth 100000 in
theorem mCi_hasLatchRing_ok : cx_mok mCi_hasLatchRing := ⟨cx_in1 (i := 467) (by rfl) rfl, by decide, mCi_hasLatchRing_mo⟩
theorem mCi_restart_rows : (cx_t mCi_restart).all (cx_row mCi_restart) = true := by decide +kernel
theorem mCi_restart_mo : cx_mo mCi_restart := ⟨by decide +kernel, List.all_eq_true.mp mCi_restart_rows⟩
set_option maxRecDepth 100000 in
theorem mCi_restart_ok : cx_mok mCi_restart := ⟨cx_in1 (i := 318) (by rfl) rfl, by decide, mCi_restart_mo⟩
theorem mCi_runCycle_rows : (cx_t mCi_runCycle).all (cx_row mCi_runCycle) = true := by decide +kernel
theorem mCi_runCycle_mo : cx_mo mCi_runCycle := ⟨by decide +kernel, List.all_eq_true.mp mCi_runCycle_rows⟩
set_option maxRecDepth 100000 in
theorem mCi_runCycle_ok : cx_mok mCi_runCycle := ⟨cx_in1 (i := 820) (by rfl) rfl, by decide, mCi_runCycle_mo⟩
theorem mCi_nodeValue_rows : (cx_t mCi_nodeValue).all (cx_row mCi_nodeValue) = true := by decide +kernel
theorem mCi_nodeValue_mo : cx_mo mCi_nodeValue := ⟨by decide +kernel, List.all_eq_true.mp mCi_nodeValue_rows⟩
set_option maxRecDepth 100000 in
theorem mCi_nodeValue_ok : cx_mok mCi_nodeValue := ⟨cx_in1 (i := 824) (by rfl) rfl, by decide, mCi_nodeValue_mo⟩
theorem mCi_tableNode_rows : (cx_t mCi_tableNode).all (cx_row mCi_tableNode) = true := by decide +kernel
theorem mCi_tableNode_mo : cx_mo mCi_tableNode := ⟨by decide +kernel, List.all_eq_true.mp mCi_tableNode_rows⟩
set_option maxRecDepth 100000 in
theorem mCi_tableNode_ok : cx_mok mCi_tableNode := ⟨cx_in1 (i := 357) (by rfl) rfl, by decide, mCi_tableNode_mo⟩
theorem mCi_joinHalves_rows : (cx_t mCi_joinHalves).all (cx_row mCi_joinHalves) = true := by decide +kernel
theorem mCi_joinHalves_mo : cx_mo mCi_joinHalves := ⟨by decide +kernel, List.all_eq_true.mp mCi_joinHalves_rows⟩
set_option maxRecDepth 100000 in
theorem mCi_joinHalves_ok : cx_mok mCi_joinHalves := ⟨cx_in1 (i := 363) (by rfl) rfl, by decide, mCi_joinHalves_mo⟩
theorem mCi_isConstant_rows : (cx_t mCi_isConstant).all (cx_row mCi_isConstant) = true := by decide +kernel
theorem mCi_isConstant_mo : cx_mo mCi_isConstant := ⟨by decide +kernel, List.all_eq_true.mp mCi_isConstant_rows⟩
set_option maxRecDepth 100000 in
theorem mCi_isConstant_ok : cx_mok mCi_isConstant := ⟨cx_in1 (i := 360) (by rfl) rfl, by decide, mCi_isConstant_mo⟩
theorem mCi_isNetOrNone_rows : (cx_t mCi_isNetOrNone).all (cx_row mCi_isNetOrNone) = true := by decide +kernel
theorem mCi_isNetOrNone_mo : cx_mo mCi_isNetOrNone := ⟨by decide +kernel, List.all_eq_true.mp mCi_isNetOrNone_rows⟩
set_option maxRecDepth 100000 in
theorem mCi_isNetOrNone_ok : cx_mok mCi_isNetOrNone := ⟨cx_in1 (i := 346) (by rfl) rfl, by decide, mCi_isNetOrNone_mo⟩
theorem mCi_addNet_rows : (cx_t mCi_addNet).all (cx_row mCi_addNet) = true := by decide +kernel
theorem mCi_addNet_mo : cx_mo mCi_addNet := ⟨by decide +kernel, List.all_eq_true.mp mCi_addNet_rows⟩
set_option maxRecDepth 100000 in
theorem mCi_addNet_ok : cx_mok mCi_addNet := ⟨cx_in1 (i := 310) (by rfl) rfl, by decide, mCi_addNet_mo⟩
theorem mLi_init_rows : (cx_t mLi_init).all (cx_row mLi_init) = true := by decide +kernel
theorem mLi_init_mo : cx_mo mLi_init := ⟨by decide +kernel, List.all_eq_true.mp mLi_init_rows⟩
set_option maxRecDepth 100000 in
theorem mLi_init_ok : cx_mok mLi_init := ⟨cx_in1 (i := 94) (by rfl) rfl, by decide, mLi_init_mo⟩
theorem mLi_size_rows : (cx_t mLi_size).all (cx_row mLi_size) = true := by decide +kernel
theorem mLi_size_mo : cx_mo mLi_size := ⟨by decide +kernel, List.all_eq_true.mp mLi_size_rows⟩
set_option maxRecDepth 100000 in
theorem mLi_size_ok : cx_mok mLi_size := ⟨cx_in1 (i := 539) (by rfl) rfl, by decide, mLi_size_mo⟩
theorem mLi_cost_rows : (cx_t mLi_cost).all (cx_row mLi_cost) = true := by decide +kernel
theorem mLi_cost_mo : cx_mo mLi_cost := ⟨by decide +kernel, List.all_eq_true.mp mLi_cost_rows⟩
set_option maxRecDepth 100000 in
theorem mLi_cost_ok : cx_mok mLi_cost := ⟨cx_in1 (i := 568) (by rfl) rfl, by decide, mLi_cost_mo⟩
theorem mLi_delay_rows : (cx_t mLi_delay).all (cx_row mLi_delay) = true := by decide +kernel
theorem mLi_delay_mo : cx_mo mLi_delay := ⟨by decide +kernel, List.all_eq_true.mp mLi_delay_rows⟩
set_option maxRecDepth 100000 in
theorem mLi_delay_ok : cx_mok mLi_delay := ⟨cx_in1 (i := 646) (by rfl) rfl, by decide, mLi_delay_mo⟩
theorem mLi_pins_rows : (cx_t mLi_pins).all (cx_row mLi_pins) = true := by decide +kernel
theorem mLi_pins_mo : cx_mo mLi_pins := ⟨by decide +kernel, List.all_eq_true.mp mLi_pins_rows⟩
set_option maxRecDepth 100000 in
theorem mLi_pins_ok : cx_mok mLi_pins := ⟨cx_in1 (i := 572) (by rfl) rfl, by decide, mLi_pins_mo⟩
theorem mLi_nands_rows : (cx_t mLi_nands).all (cx_row mLi_nands) = true := by decide +kernel
theorem mLi_nands_mo : cx_mo mLi_nands := ⟨by decide +kernel, List.all_eq_true.mp mLi_nands_rows⟩
set_option maxRecDepth 100000 in
theorem mLi_nands_ok : cx_mok mLi_nands := ⟨cx_in1 (i := 543) (by rfl) rfl, by decide, mLi_nands_mo⟩
theorem mLi_digit_rows : (cx_t mLi_digit).all (cx_row mLi_digit) = true := by decide +kernel
theorem mLi_digit_mo : cx_mo mLi_digit := ⟨by decide +kernel, List.all_eq_true.mp mLi_digit_rows⟩
set_option maxRecDepth 100000 in
theorem mLi_digit_ok : cx_mok mLi_digit := ⟨cx_in1 (i := 551) (by rfl) rfl, by decide, mLi_digit_mo⟩
theorem mLi_value_rows : (cx_t mLi_value).all (cx_row mLi_value) = true := by decide +kernel
theorem mLi_value_mo : cx_mo mLi_value := ⟨by decide +kernel, List.all_eq_true.mp mLi_value_rows⟩
set_option maxRecDepth 100000 in
theorem mLi_value_ok : cx_mok mLi_value := ⟨cx_in1 (i := 717) (by rfl) rfl, by decide, mLi_value_mo⟩
theorem mLi_coversEveryNode_rows : (cx_t mLi_coversEveryNode).all (cx_row mLi_coversEveryNode) = true := by decide +kernel
theorem mLi_coversEveryNode_mo : cx_mo mLi_coversEveryNode := ⟨by decide +kernel, List.all_eq_true.mp mLi_coversEveryNode_rows⟩
set_option maxRecDepth 100000 in
theorem mLi_coversEveryNode_ok : cx_mok mLi_coversEveryNode := ⟨cx_in1 (i := 483) (by rfl) rfl, by decide, mLi_coversEveryNode_mo⟩
theorem mLi_addCell_rows : (cx_t mLi_addCell).all (cx_row mLi_addCell) = true := by decide +kernel
theorem mLi_addCell_mo : cx_mo mLi_addCell := ⟨by decide +kernel, List.all_eq_true.mp mLi_addCell_rows⟩
set_option maxRecDepth 100000 in
theorem mLi_addCell_ok : cx_mok mLi_addCell := ⟨cx_in1 (i := 410) (by rfl) rfl, by decide, mLi_addCell_mo⟩
theorem mLi_hasPattern_rows : (cx_t mLi_hasPattern).all (cx_row mLi_hasPattern) = true := by decide +kernel
theorem mLi_hasPattern_mo : cx_mo mLi_hasPattern := ⟨by decide +kernel, List.all_eq_true.mp mLi_hasPattern_rows⟩
set_option maxRecDepth 100000 in
theorem mLi_hasPattern_ok : cx_mok mLi_hasPattern := ⟨cx_in1 (i := 487) (by rfl) rfl, by decide, mLi_hasPattern_mo⟩
theorem mLi_digitOf_rows : (cx_t mLi_digitOf).all (cx_row mLi_digitOf) = true := by decide +kernel
theorem mLi_digitOf_mo : cx_mo mLi_digitOf := ⟨by decide +kernel, List.all_eq_true.mp mLi_digitOf_rows⟩
set_option maxRecDepth 100000 in
theorem mLi_digitOf_ok : cx_mok mLi_digitOf := ⟨cx_in1 (i := 416) (by rfl) rfl, by decide, mLi_digitOf_mo⟩
theorem mLi_isPattern_rows : (cx_t mLi_isPattern).all (cx_row mLi_isPattern) = true := by decide +kernel
theorem mLi_isPattern_mo : cx_mo mLi_isPattern := ⟨by decide +kernel, List.all_eq_true.mp mLi_isPattern_rows⟩
set_option maxRecDepth 100000 in
theorem mLi_isPattern_ok : cx_mok mLi_isPattern := ⟨cx_in1 (i := 413) (by rfl) rfl, by decide, mLi_isPattern_mo⟩
theorem mLi_countDigits_rows : (cx_t mLi_countDigits).all (cx_row mLi_countDigits) = true := by decide +kernel
theorem mLi_countDigits_mo : cx_mo mLi_countDigits := ⟨by decide +kernel, List.all_eq_true.mp mLi_countDigits_rows⟩
set_option maxRecDepth 100000 in
theorem mLi_countDigits_ok : cx_mok mLi_countDigits := ⟨cx_in1 (i := 419) (by rfl) rfl, by decide, mLi_countDigits_mo⟩
theorem mLi_tableOf_rows : (cx_t mLi_tableOf).all (cx_row mLi_tableOf) = true := by decide +kernel
theorem mLi_tableOf_mo : cx_mo mLi_tableOf := ⟨by decide +kernel, List.all_eq_true.mp mLi_tableOf_rows⟩
set_option maxRecDepth 100000 in
theorem mLi_tableOf_ok : cx_mok mLi_tableOf := ⟨cx_in1 (i := 422) (by rfl) rfl, by decide, mLi_tableOf_mo⟩
theorem mLi_valueOf_rows : (cx_t mLi_valueOf).all (cx_row mLi_valueOf) = true := by decide +kernel
theorem mLi_valueOf_mo : cx_mo mLi_valueOf := ⟨by decide +kernel, List.all_eq_true.mp mLi_valueOf_rows⟩
set_option maxRecDepth 100000 in
theorem mLi_valueOf_ok : cx_mok mLi_valueOf := ⟨cx_in1 (i := 425) (by rfl) rfl, by decide, mLi_valueOf_mo⟩
theorem mCo_init_rows : (cx_t mCo_init).all (cx_row mCo_init) = true := by decide +kernel
theorem mCo_init_mo : cx_mo mCo_init := ⟨by decide +kernel, List.all_eq_true.mp mCo_init_rows⟩
set_option maxRecDepth 100000 in
theorem mCo_init_ok : cx_mok mCo_init := ⟨cx_in1 (i := 122) (by rfl) rfl, by decide, mCo_init_mo⟩
theorem mCo_gateCount_rows : (cx_t mCo_gateCount).all (cx_row mCo_gateCount) = true := by decide +kernel
theorem mCo_gateCount_mo : cx_mo mCo_gateCount := ⟨by decide +kernel, List.all_eq_true.mp mCo_gateCount_rows⟩
set_option maxRecDepth 100000 in
theorem mCo_gateCount_ok : cx_mok mCo_gateCount := ⟨cx_in1 (i := 604) (by rfl) rfl, by decide, mCo_gateCount_mo⟩
theorem mCo_gate_rows : (cx_t mCo_gate).all (cx_row mCo_gate) = true := by decide +kernel
theorem mCo_gate_mo : cx_mo mCo_gate := ⟨by decide +kernel, List.all_eq_true.mp mCo_gate_rows⟩
set_option maxRecDepth 100000 in
theorem mCo_gate_ok : cx_mok mCo_gate := ⟨cx_in1 (i := 608) (by rfl) rfl, by decide, mCo_gate_mo⟩
theorem mCo_isGate_rows : (cx_t mCo_isGate).all (cx_row mCo_isGate) = true := by decide +kernel
theorem mCo_isGate_mo : cx_mo mCo_isGate := ⟨by decide +kernel, List.all_eq_true.mp mCo_isGate_rows⟩
set_option maxRecDepth 100000 in
theorem mCo_isGate_ok : cx_mok mCo_isGate := ⟨cx_in1 (i := 666) (by rfl) rfl, by decide, mCo_isGate_mo⟩
theorem mCo_gateCell_rows : (cx_t mCo_gateCell).all (cx_row mCo_gateCell) = true := by decide +kernel
theorem mCo_gateCell_mo : cx_mo mCo_gateCell := ⟨by decide +kernel, List.all_eq_true.mp mCo_gateCell_rows⟩
set_option maxRecDepth 100000 in
theorem mCo_gateCell_ok : cx_mok mCo_gateCell := ⟨cx_in1 (i := 763) (by rfl) rfl, by decide, mCo_gateCell_mo⟩
theorem mCo_gatePins_rows : (cx_t mCo_gatePins).all (cx_row mCo_gatePins) = true := by decide +kernel
theorem mCo_gatePins_mo : cx_mo mCo_gatePins := ⟨by decide +kernel, List.all_eq_true.mp mCo_gatePins_rows⟩
set_option maxRecDepth 100000 in
theorem mCo_gatePins_ok : cx_mok mCo_gatePins := ⟨cx_in1 (i := 588) (by rfl) rfl, by decide, mCo_gatePins_mo⟩
theorem mCo_gateDelay_rows : (cx_t mCo_gateDelay).all (cx_row mCo_gateDelay) = true := by decide +kernel
theorem mCo_gateDelay_mo : cx_mo mCo_gateDelay := ⟨by decide +kernel, List.all_eq_true.mp mCo_gateDelay_rows⟩
set_option maxRecDepth 100000 in
theorem mCo_gateDelay_ok : cx_mok mCo_gateDelay := ⟨cx_in1 (i := 642) (by rfl) rfl, by decide, mCo_gateDelay_mo⟩
theorem mCo_gateValue_rows : (cx_t mCo_gateValue).all (cx_row mCo_gateValue) = true := by decide +kernel
theorem mCo_gateValue_mo : cx_mo mCo_gateValue := ⟨by decide +kernel, List.all_eq_true.mp mCo_gateValue_rows⟩
set_option maxRecDepth 100000 in
theorem mCo_gateValue_ok : cx_mok mCo_gateValue := ⟨cx_in1 (i := 713) (by rfl) rfl, by decide, mCo_gateValue_mo⟩
theorem mCo_pinNode_rows : (cx_t mCo_pinNode).all (cx_row mCo_pinNode) = true := by decide +kernel
theorem mCo_pinNode_mo : cx_mo mCo_pinNode := ⟨by decide +kernel, List.all_eq_true.mp mCo_pinNode_rows⟩
set_option maxRecDepth 100000 in
theorem mCo_pinNode_ok : cx_mok mCo_pinNode := ⟨cx_in1 (i := 592) (by rfl) rfl, by decide, mCo_pinNode_mo⟩
theorem mCo_totalArea_rows : (cx_t mCo_totalArea).all (cx_row mCo_totalArea) = true := by decide +kernel
theorem mCo_totalArea_mo : cx_mo mCo_totalArea := ⟨by decide +kernel, List.all_eq_true.mp mCo_totalArea_rows⟩
set_option maxRecDepth 100000 in
theorem mCo_totalArea_ok : cx_mok mCo_totalArea := ⟨cx_in1 (i := 754) (by rfl) rfl, by decide, mCo_totalArea_mo⟩
theorem mCo_choose_rows : (cx_t mCo_choose).all (cx_row mCo_choose) = true := by decide +kernel
theorem mCo_choose_mo : cx_mo mCo_choose := ⟨by decide +kernel, List.all_eq_true.mp mCo_choose_rows⟩
set_option maxRecDepth 100000 in
theorem mCo_choose_ok : cx_mok mCo_choose := ⟨cx_in1 (i := 491) (by rfl) rfl, by decide, mCo_choose_mo⟩
theorem mCo_markNeeded_rows : (cx_t mCo_markNeeded).all (cx_row mCo_markNeeded) = true := by decide +kernel
theorem mCo_markNeeded_mo : cx_mo mCo_markNeeded := ⟨by decide +kernel, List.all_eq_true.mp mCo_markNeeded_rows⟩
set_option maxRecDepth 100000 in
theorem mCo_markNeeded_ok : cx_mok mCo_markNeeded := ⟨cx_in1 (i := 495) (by rfl) rfl, by decide, mCo_markNeeded_mo⟩
theorem mCo_countLiveUsers_rows : (cx_t mCo_countLiveUsers).all (cx_row mCo_countLiveUsers) = true := by decide +kernel
theorem mCo_countLiveUsers_mo : cx_mo mCo_countLiveUsers := ⟨by decide +kernel, List.all_eq_true.mp mCo_countLiveUsers_rows⟩
set_option maxRecDepth 100000 in
theorem mCo_countLiveUsers_ok : cx_mok mCo_countLiveUsers := ⟨cx_in1 (i := 512) (by rfl) rfl, by decide, mCo_countLiveUsers_mo⟩
theorem mCo_isLive_rows : (cx_t mCo_isLive).all (cx_row mCo_isLive) = true := by decide +kernel
theorem mCo_isLive_mo : cx_mo mCo_isLive := ⟨by decide +kernel, List.all_eq_true.mp mCo_isLive_rows⟩
set_option maxRecDepth 100000 in
theorem mCo_isLive_ok : cx_mok mCo_isLive := ⟨cx_in1 (i := 520) (by rfl) rfl, by decide, mCo_isLive_mo⟩
theorem mCo_isRoot_rows : (cx_t mCo_isRoot).all (cx_row mCo_isRoot) = true := by decide +kernel
theorem mCo_isRoot_mo : cx_mo mCo_isRoot := ⟨by decide +kernel, List.all_eq_true.mp mCo_isRoot_rows⟩
set_option maxRecDepth 100000 in
theorem mCo_isRoot_ok : cx_mok mCo_isRoot := ⟨cx_in1 (i := 555) (by rfl) rfl, by decide, mCo_isRoot_mo⟩
theorem mCo_chooseAt_rows : (cx_t mCo_chooseAt).all (cx_row mCo_chooseAt) = true := by decide +kernel
theorem mCo_chooseAt_mo : cx_mo mCo_chooseAt := ⟨by decide +kernel, List.all_eq_true.mp mCo_chooseAt_rows⟩
set_option maxRecDepth 100000 in
theorem mCo_chooseAt_ok : cx_mok mCo_chooseAt := ⟨cx_in1 (i := 534) (by rfl) rfl, by decide, mCo_chooseAt_mo⟩
theorem mCo_keepIfCheaper_rows : (cx_t mCo_keepIfCheaper).all (cx_row mCo_keepIfCheaper) = true := by decide +kernel
theorem mCo_keepIfCheaper_mo : cx_mo mCo_keepIfCheaper := ⟨by decide +kernel, List.all_eq_true.mp mCo_keepIfCheaper_rows⟩
set_option maxRecDepth 100000 in
theorem mCo_keepIfCheaper_ok : cx_mok mCo_keepIfCheaper := ⟨cx_in1 (i := 560) (by rfl) rfl, by decide, mCo_keepIfCheaper_mo⟩
theorem mCo_laidCost_rows : (cx_t mCo_laidCost).all (cx_row mCo_laidCost) = true := by decide +kernel
theorem mCo_laidCost_mo : cx_mo mCo_laidCost := ⟨by decide +kernel, List.all_eq_true.mp mCo_laidCost_rows⟩
set_option maxRecDepth 100000 in
theorem mCo_laidCost_ok : cx_mok mCo_laidCost := ⟨cx_in1 (i := 564) (by rfl) rfl, by decide, mCo_laidCost_mo⟩
theorem mCo_lay_rows : (cx_t mCo_lay).all (cx_row mCo_lay) = true := by decide +kernel
theorem mCo_lay_mo : cx_mo mCo_lay := ⟨by decide +kernel, List.all_eq_true.mp mCo_lay_rows⟩
set_option maxRecDepth 100000 in
theorem mCo_lay_ok : cx_mok mCo_lay := ⟨cx_in1 (i := 547) (by rfl) rfl, by decide, mCo_lay_mo⟩
theorem mCo_markGates_rows : (cx_t mCo_markGates).all (cx_row mCo_markGates) = true := by decide +kernel
theorem mCo_markGates_mo : cx_mo mCo_markGates := ⟨by decide +kernel, List.all_eq_true.mp mCo_markGates_rows⟩
set_option maxRecDepth 100000 in
theorem mCo_markGates_ok : cx_mok mCo_markGates := ⟨cx_in1 (i := 579) (by rfl) rfl, by decide, mCo_markGates_mo⟩
theorem mCo_markPins_rows : (cx_t mCo_markPins).all (cx_row mCo_markPins) = true := by decide +kernel
theorem mCo_markPins_mo : cx_mo mCo_markPins := ⟨by decide +kernel, List.all_eq_true.mp mCo_markPins_rows⟩
set_option maxRecDepth 100000 in
theorem mCo_markPins_ok : cx_mok mCo_markPins := ⟨cx_in1 (i := 584) (by rfl) rfl, by decide, mCo_markPins_mo⟩
theorem mCo_listGates_rows : (cx_t mCo_listGates).all (cx_row mCo_listGates) = true := by decide +kernel
theorem mCo_listGates_mo : cx_mo mCo_listGates := ⟨by decide +kernel, List.all_eq_true.mp mCo_listGates_rows⟩
set_option maxRecDepth 100000 in
theorem mCo_listGates_ok : cx_mok mCo_listGates := ⟨cx_in1 (i := 596) (by rfl) rfl, by decide, mCo_listGates_mo⟩
theorem mCn_init_rows : (cx_t mCn_init).all (cx_row mCn_init) = true := by decide +kernel
theorem mCn_init_mo : cx_mo mCn_init := ⟨by decide +kernel, List.all_eq_true.mp mCn_init_rows⟩
set_option maxRecDepth 100000 in
theorem mCn_init_ok : cx_mok mCn_init := ⟨cx_in1 (i := 169) (by rfl) rfl, by decide, mCn_init_mo⟩
theorem mCn_size_rows : (cx_t mCn_size).all (cx_row mCn_size) = true := by decide +kernel
theorem mCn_size_mo : cx_mo mCn_size := ⟨by decide +kernel, List.all_eq_true.mp mCn_size_rows⟩
set_option maxRecDepth 100000 in
theorem mCn_size_ok : cx_mok mCn_size := ⟨cx_in1 (i := 654) (by rfl) rfl, by decide, mCn_size_mo⟩
theorem mCn_source_rows : (cx_t mCn_source).all (cx_row mCn_source) = true := by decide +kernel
theorem mCn_source_mo : cx_mo mCn_source := ⟨by decide +kernel, List.all_eq_true.mp mCn_source_rows⟩
set_option maxRecDepth 100000 in
theorem mCn_source_ok : cx_mok mCn_source := ⟨cx_in1 (i := 658) (by rfl) rfl, by decide, mCn_source_mo⟩
theorem mCn_target_rows : (cx_t mCn_target).all (cx_row mCn_target) = true := by decide +kernel
theorem mCn_target_mo : cx_mo mCn_target := ⟨by decide +kernel, List.all_eq_true.mp mCn_target_rows⟩
set_option maxRecDepth 100000 in
theorem mCn_target_ok : cx_mok mCn_target := ⟨cx_in1 (i := 662) (by rfl) rfl, by decide, mCn_target_mo⟩
theorem mCn_count_rows : (cx_t mCn_count).all (cx_row mCn_count) = true := by decide +kernel
theorem mCn_count_mo : cx_mo mCn_count := ⟨by decide +kernel, List.all_eq_true.mp mCn_count_rows⟩
set_option maxRecDepth 100000 in
theorem mCn_count_ok : cx_mok mCn_count := ⟨cx_in1 (i := 674) (by rfl) rfl, by decide, mCn_count_mo⟩
theorem mCn_row_rows : (cx_t mCn_row).all (cx_row mCn_row) = true := by decide +kernel
theorem mCn_row_mo : cx_mo mCn_row := ⟨by decide +kernel, List.all_eq_true.mp mCn_row_rows⟩
set_option maxRecDepth 100000 in
theorem mCn_row_ok : cx_mok mCn_row := ⟨cx_in1 (i := 745) (by rfl) rfl, by decide, mCn_row_mo⟩
theorem mCn_ofGate_rows : (cx_t mCn_ofGate).all (cx_row mCn_ofGate) = true := by decide +kernel
theorem mCn_ofGate_mo : cx_mo mCn_ofGate := ⟨by decide +kernel, List.all_eq_true.mp mCn_ofGate_rows⟩
set_option maxRecDepth 100000 in
theorem mCn_ofGate_ok : cx_mok mCn_ofGate := ⟨cx_in1 (i := 700) (by rfl) rfl, by decide, mCn_ofGate_mo⟩
theorem mCn_ofOutput_rows : (cx_t mCn_ofOutput).all (cx_row mCn_ofOutput) = true := by decide +kernel
theorem mCn_ofOutput_mo : cx_mo mCn_ofOutput := ⟨by decide +kernel, List.all_eq_true.mp mCn_ofOutput_rows⟩
set_option maxRecDepth 100000 in
theorem mCn_ofOutput_ok : cx_mok mCn_ofOutput := ⟨cx_in1 (i := 804) (by rfl) rfl, by decide, mCn_ofOutput_mo⟩
theorem mCn_describe_rows : (cx_t mCn_describe).all (cx_row mCn_describe) = true := by decide +kernel
theorem mCn_describe_mo : cx_mo mCn_describe := ⟨by decide +kernel, List.all_eq_true.mp mCn_describe_rows⟩
set_option maxRecDepth 100000 in
theorem mCn_describe_ok : cx_mok mCn_describe := ⟨cx_in1 (i := 811) (by rfl) rfl, by decide, mCn_describe_mo⟩
theorem mCn_connect_rows : (cx_t mCn_connect).all (cx_row mCn_connect) = true := by decide +kernel
theorem mCn_connect_mo : cx_mo mCn_connect := ⟨by decide +kernel, List.all_eq_true.mp mCn_connect_rows⟩
set_option maxRecDepth 100000 in
theorem mCn_connect_ok : cx_mok mCn_connect := ⟨cx_in1 (i := 600) (by rfl) rfl, by decide, mCn_connect_mo⟩
theorem mCn_takeLast_rows : (cx_t mCn_takeLast).all (cx_row mCn_takeLast) = true := by decide +kernel
theorem mCn_takeLast_mo : cx_mo mCn_takeLast := ⟨by decide +kernel, List.all_eq_true.mp mCn_takeLast_rows⟩
set_option maxRecDepth 100000 in
theorem mCn_takeLast_ok : cx_mok mCn_takeLast := ⟨cx_in1 (i := 709) (by rfl) rfl, by decide, mCn_takeLast_mo⟩
theorem mCn_putFirst_rows : (cx_t mCn_putFirst).all (cx_row mCn_putFirst) = true := by decide +kernel
theorem mCn_putFirst_mo : cx_mo mCn_putFirst := ⟨by decide +kernel, List.all_eq_true.mp mCn_putFirst_rows⟩
set_option maxRecDepth 100000 in
theorem mCn_putFirst_ok : cx_mok mCn_putFirst := ⟨cx_in1 (i := 721) (by rfl) rfl, by decide, mCn_putFirst_mo⟩
theorem mCn_connectGate_rows : (cx_t mCn_connectGate).all (cx_row mCn_connectGate) = true := by decide +kernel
theorem mCn_connectGate_mo : cx_mo mCn_connectGate := ⟨by decide +kernel, List.all_eq_true.mp mCn_connectGate_rows⟩
set_option maxRecDepth 100000 in
theorem mCn_connectGate_ok : cx_mok mCn_connectGate := ⟨cx_in1 (i := 612) (by rfl) rfl, by decide, mCn_connectGate_mo⟩
theorem mCn_add_rows : (cx_t mCn_add).all (cx_row mCn_add) = true := by decide +kernel
theorem mCn_add_mo : cx_mo mCn_add := ⟨by decide +kernel, List.all_eq_true.mp mCn_add_rows⟩
set_option maxRecDepth 100000 in
theorem mCn_add_ok : cx_mok mCn_add := ⟨cx_in1 (i := 618) (by rfl) rfl, by decide, mCn_add_mo⟩
theorem mRe_init_rows : (cx_t mRe_init).all (cx_row mRe_init) = true := by decide +kernel
theorem mRe_init_mo : cx_mo mRe_init := ⟨by decide +kernel, List.all_eq_true.mp mRe_init_rows⟩
set_option maxRecDepth 100000 in
theorem mRe_init_ok : cx_mok mRe_init := ⟨cx_in1 (i := 207) (by rfl) rfl, by decide, mRe_init_mo⟩
theorem mRe_periodBefore_rows : (cx_t mRe_periodBefore).all (cx_row mRe_periodBefore) = true := by decide +kernel
theorem mRe_periodBefore_mo : cx_mo mRe_periodBefore := ⟨by decide +kernel, List.all_eq_true.mp mRe_periodBefore_rows⟩
set_option maxRecDepth 100000 in
theorem mRe_periodBefore_ok : cx_mok mRe_periodBefore := ⟨cx_in1 (i := 771) (by rfl) rfl, by decide, mRe_periodBefore_mo⟩
theorem mRe_periodAfter_rows : (cx_t mRe_periodAfter).all (cx_row mRe_periodAfter) = true := by decide +kernel
theorem mRe_periodAfter_mo : cx_mo mRe_periodAfter := ⟨by decide +kernel, List.all_eq_true.mp mRe_periodAfter_rows⟩
set_option maxRecDepth 100000 in
theorem mRe_periodAfter_ok : cx_mok mRe_periodAfter := ⟨cx_in1 (i := 779) (by rfl) rfl, by decide, mRe_periodAfter_mo⟩
theorem mRe_movesAt_rows : (cx_t mRe_movesAt).all (cx_row mRe_movesAt) = true := by decide +kernel
theorem mRe_movesAt_mo : cx_mo mRe_movesAt := ⟨by decide +kernel, List.all_eq_true.mp mRe_movesAt_rows⟩
set_option maxRecDepth 100000 in
theorem mRe_movesAt_ok : cx_mok mRe_movesAt := ⟨cx_in1 (i := 787) (by rfl) rfl, by decide, mRe_movesAt_mo⟩
theorem mRe_shorten_rows : (cx_t mRe_shorten).all (cx_row mRe_shorten) = true := by decide +kernel
theorem mRe_shorten_mo : cx_mo mRe_shorten := ⟨by decide +kernel, List.all_eq_true.mp mRe_shorten_rows⟩
set_option maxRecDepth 100000 in
theorem mRe_shorten_ok : cx_mok mRe_shorten := ⟨cx_in1 (i := 631) (by rfl) rfl, by decide, mRe_shorten_mo⟩
theorem mRe_slowestGate_rows : (cx_t mRe_slowestGate).all (cx_row mRe_slowestGate) = true := by decide +kernel
theorem mRe_slowestGate_mo : cx_mo mRe_slowestGate := ⟨by decide +kernel, List.all_eq_true.mp mRe_slowestGate_rows⟩
set_option maxRecDepth 100000 in
theorem mRe_slowestGate_ok : cx_mok mRe_slowestGate := ⟨cx_in1 (i := 679) (by rfl) rfl, by decide, mRe_slowestGate_mo⟩
theorem mRe_measure_rows : (cx_t mRe_measure).all (cx_row mRe_measure) = true := by decide +kernel
theorem mRe_measure_mo : cx_mo mRe_measure := ⟨by decide +kernel, List.all_eq_true.mp mRe_measure_rows⟩
set_option maxRecDepth 100000 in
theorem mRe_measure_ok : cx_mok mRe_measure := ⟨cx_in1 (i := 636) (by rfl) rfl, by decide, mRe_measure_mo⟩
theorem mRe_growTails_rows : (cx_t mRe_growTails).all (cx_row mRe_growTails) = true := by decide +kernel
theorem mRe_growTails_mo : cx_mo mRe_growTails := ⟨by decide +kernel, List.all_eq_true.mp mRe_growTails_rows⟩
set_option maxRecDepth 100000 in
theorem mRe_growTails_ok : cx_mok mRe_growTails := ⟨cx_in1 (i := 650) (by rfl) rfl, by decide, mRe_growTails_mo⟩
theorem mRe_trialCount_rows : (cx_t mRe_trialCount).all (cx_row mRe_trialCount) = true := by decide +kernel
theorem mRe_trialCount_mo : cx_mo mRe_trialCount := ⟨by decide +kernel, List.all_eq_true.mp mRe_trialCount_rows⟩
set_option maxRecDepth 100000 in
theorem mRe_trialCount_ok : cx_mok mRe_trialCount := ⟨cx_in1 (i := 670) (by rfl) rfl, by decide, mRe_trialCount_mo⟩
theorem mRe_raise_rows : (cx_t mRe_raise).all (cx_row mRe_raise) = true := by decide +kernel
theorem mRe_raise_mo : cx_mo mRe_raise := ⟨by decide +kernel, List.all_eq_true.mp mRe_raise_rows⟩
set_option maxRecDepth 100000 in
theorem mRe_raise_ok : cx_mok mRe_raise := ⟨cx_in1 (i := 683) (by rfl) rfl, by decide, mRe_raise_mo⟩
theorem mRe_hasTakenTooMany_rows : (cx_t mRe_hasTakenTooMany).all (cx_row mRe_hasTakenTooMany) = true := by decide +kernel
theorem mRe_hasTakenTooMany_mo : cx_mo mRe_hasTakenTooMany := ⟨by decide +kernel, List.all_eq_true.mp mRe_hasTakenTooMany_rows⟩
set_option maxRecDepth 100000 in
theorem mRe_hasTakenTooMany_ok : cx_mok mRe_hasTakenTooMany := ⟨cx_in1 (i := 687) (by rfl) rfl, by decide, mRe_hasTakenTooMany_mo⟩
theorem mRe_makeMoves_rows : (cx_t mRe_makeMoves).all (cx_row mRe_makeMoves) = true := by decide +kernel
theorem mRe_makeMoves_mo : cx_mo mRe_makeMoves := ⟨by decide +kernel, List.all_eq_true.mp mRe_makeMoves_rows⟩
set_option maxRecDepth 100000 in
theorem mRe_makeMoves_ok : cx_mok mRe_makeMoves := ⟨cx_in1 (i := 692) (by rfl) rfl, by decide, mRe_makeMoves_mo⟩
theorem mRe_canMove_rows : (cx_t mRe_canMove).all (cx_row mRe_canMove) = true := by decide +kernel
theorem mRe_canMove_mo : cx_mo mRe_canMove := ⟨by decide +kernel, List.all_eq_true.mp mRe_canMove_rows⟩
set_option maxRecDepth 100000 in
theorem mRe_canMove_ok : cx_mok mRe_canMove := ⟨cx_in1 (i := 696) (by rfl) rfl, by decide, mRe_canMove_mo⟩
theorem mRe_moveAt_rows : (cx_t mRe_moveAt).all (cx_row mRe_moveAt) = true := by decide +kernel
theorem mRe_moveAt_mo : cx_mo mRe_moveAt := ⟨by decide +kernel, List.all_eq_true.mp mRe_moveAt_rows⟩
set_option maxRecDepth 100000 in
theorem mRe_moveAt_ok : cx_mok mRe_moveAt := ⟨cx_in1 (i := 705) (by rfl) rfl, by decide, mRe_moveAt_mo⟩
theorem mMa_init_rows : (cx_t mMa_init).all (cx_row mMa_init) = true := by decide +kernel
theorem mMa_init_mo : cx_mo mMa_init := ⟨by decide +kernel, List.all_eq_true.mp mMa_init_rows⟩
set_option maxRecDepth 100000 in
theorem mMa_init_ok : cx_mok mMa_init := ⟨cx_in1 (i := 235) (by rfl) rfl, by decide, mMa_init_mo⟩
theorem mMa_arrange_rows : (cx_t mMa_arrange).all (cx_row mMa_arrange) = true := by decide +kernel
theorem mMa_arrange_mo : cx_mo mMa_arrange := ⟨by decide +kernel, List.all_eq_true.mp mMa_arrange_rows⟩
set_option maxRecDepth 100000 in
theorem mMa_arrange_ok : cx_mok mMa_arrange := ⟨cx_in1 (i := 725) (by rfl) rfl, by decide, mMa_arrange_mo⟩
theorem mMa_restart_rows : (cx_t mMa_restart).all (cx_row mMa_restart) = true := by decide +kernel
theorem mMa_restart_mo : cx_mo mMa_restart := ⟨by decide +kernel, List.all_eq_true.mp mMa_restart_rows⟩
set_option maxRecDepth 100000 in
theorem mMa_restart_ok : cx_mok mMa_restart := ⟨cx_in1 (i := 740) (by rfl) rfl, by decide, mMa_restart_mo⟩
theorem mMa_runCycle_rows : (cx_t mMa_runCycle).all (cx_row mMa_runCycle) = true := by decide +kernel
theorem mMa_runCycle_mo : cx_mo mMa_runCycle := ⟨by decide +kernel, List.all_eq_true.mp mMa_runCycle_rows⟩
set_option maxRecDepth 100000 in
theorem mMa_runCycle_ok : cx_mok mMa_runCycle := ⟨cx_in1 (i := 840) (by rfl) rfl, by decide, mMa_runCycle_mo⟩
theorem mMa_isReady_rows : (cx_t mMa_isReady).all (cx_row mMa_isReady) = true := by decide +kernel
theorem mMa_isReady_mo : cx_mo mMa_isReady := ⟨by decide +kernel, List.all_eq_true.mp mMa_isReady_rows⟩
set_option maxRecDepth 100000 in
theorem mMa_isReady_ok : cx_mok mMa_isReady := ⟨cx_in1 (i := 731) (by rfl) rfl, by decide, mMa_isReady_mo⟩
theorem mMa_readInputs_rows : (cx_t mMa_readInputs).all (cx_row mMa_readInputs) = true := by decide +kernel
theorem mMa_readInputs_mo : cx_mo mMa_readInputs := ⟨by decide +kernel, List.all_eq_true.mp mMa_readInputs_rows⟩
set_option maxRecDepth 100000 in
theorem mMa_readInputs_ok : cx_mok mMa_readInputs := ⟨cx_in1 (i := 844) (by rfl) rfl, by decide, mMa_readInputs_mo⟩
theorem mMa_outputValue_rows : (cx_t mMa_outputValue).all (cx_row mMa_outputValue) = true := by decide +kernel
theorem mMa_outputValue_mo : cx_mo mMa_outputValue := ⟨by decide +kernel, List.all_eq_true.mp mMa_outputValue_rows⟩
set_option maxRecDepth 100000 in
theorem mMa_outputValue_ok : cx_mok mMa_outputValue := ⟨cx_in1 (i := 851) (by rfl) rfl, by decide, mMa_outputValue_mo⟩
theorem mMa_arrivingValue_rows : (cx_t mMa_arrivingValue).all (cx_row mMa_arrivingValue) = true := by decide +kernel
theorem mMa_arrivingValue_mo : cx_mo mMa_arrivingValue := ⟨by decide +kernel, List.all_eq_true.mp mMa_arrivingValue_rows⟩
set_option maxRecDepth 100000 in
theorem mMa_arrivingValue_ok : cx_mok mMa_arrivingValue := ⟨cx_in1 (i := 855) (by rfl) rfl, by decide, mMa_arrivingValue_mo⟩
theorem mMa_shiftRows_rows : (cx_t mMa_shiftRows).all (cx_row mMa_shiftRows) = true := by decide +kernel
theorem mMa_shiftRows_mo : cx_mo mMa_shiftRows := ⟨by decide +kernel, List.all_eq_true.mp mMa_shiftRows_rows⟩
set_option maxRecDepth 100000 in
theorem mMa_shiftRows_ok : cx_mok mMa_shiftRows := ⟨cx_in1 (i := 862) (by rfl) rfl, by decide, mMa_shiftRows_mo⟩
theorem mM_init_rows : (cx_t mM_init).all (cx_row mM_init) = true := by decide +kernel
theorem mM_init_mo : cx_mo mM_init := ⟨by decide +kernel, List.all_eq_true.mp mM_init_rows⟩
set_option maxRecDepth 100000 in
theorem mM_init_ok : cx_mok mM_init := ⟨cx_in1 (i := 871) (by rfl) rfl, by decide, mM_init_mo⟩
theorem mM_newNode_rows : (cx_t mM_newNode).all (cx_row mM_newNode) = true := by decide +kernel
theorem mM_newNode_mo : cx_mo mM_newNode := ⟨by decide +kernel, List.all_eq_true.mp mM_newNode_rows⟩
set_option maxRecDepth 100000 in
theorem mM_newNode_ok : cx_mok mM_newNode := ⟨cx_in1 (i := 1034) (by rfl) rfl, by decide, mM_newNode_mo⟩
theorem mM_find_rows : (cx_t mM_find).all (cx_row mM_find) = true := by decide +kernel
theorem mM_find_mo : cx_mo mM_find := ⟨by decide +kernel, List.all_eq_true.mp mM_find_rows⟩
set_option maxRecDepth 100000 in
theorem mM_find_ok : cx_mok mM_find := ⟨cx_in1 (i := 1078) (by rfl) rfl, by decide, mM_find_mo⟩
theorem mM_inv_rows : (cx_t mM_inv).all (cx_row mM_inv) = true := by decide +kernel
theorem mM_inv_mo : cx_mo mM_inv := ⟨by decide +kernel, List.all_eq_true.mp mM_inv_rows⟩
set_option maxRecDepth 100000 in
theorem mM_inv_ok : cx_mok mM_inv := ⟨cx_in1 (i := 1074) (by rfl) rfl, by decide, mM_inv_mo⟩
theorem mM_nand_rows : (cx_t mM_nand).all (cx_row mM_nand) = true := by decide +kernel
theorem mM_nand_mo : cx_mo mM_nand := ⟨by decide +kernel, List.all_eq_true.mp mM_nand_rows⟩
set_option maxRecDepth 100000 in
theorem mM_nand_ok : cx_mok mM_nand := ⟨cx_in1 (i := 1082) (by rfl) rfl, by decide, mM_nand_mo⟩
theorem mM_join_rows : (cx_t mM_join).all (cx_row mM_join) = true := by decide +kernel
theorem mM_join_mo : cx_mo mM_join := ⟨by decide +kernel, List.all_eq_true.mp mM_join_rows⟩
set_option maxRecDepth 100000 in
theorem mM_join_ok : cx_mok mM_join := ⟨cx_in1 (i := 1070) (by rfl) rfl, by decide, mM_join_mo⟩
theorem mM_flat_rows : (cx_t mM_flat).all (cx_row mM_flat) = true := by decide +kernel
theorem mM_flat_mo : cx_mo mM_flat := ⟨by decide +kernel, List.all_eq_true.mp mM_flat_rows⟩
set_option maxRecDepth 100000 in
theorem mM_flat_ok : cx_mok mM_flat := ⟨cx_in1 (i := 1085) (by rfl) rfl, by decide, mM_flat_mo⟩
theorem mM_overOne_rows : (cx_t mM_overOne).all (cx_row mM_overOne) = true := by decide +kernel
theorem mM_overOne_mo : cx_mo mM_overOne := ⟨by decide +kernel, List.all_eq_true.mp mM_overOne_rows⟩
set_option maxRecDepth 100000 in
theorem mM_overOne_ok : cx_mok mM_overOne := ⟨cx_in1 (i := 1066) (by rfl) rfl, by decide, mM_overOne_mo⟩
theorem mM_overTwo_rows : (cx_t mM_overTwo).all (cx_row mM_overTwo) = true := by decide +kernel
theorem mM_overTwo_mo : cx_mo mM_overTwo := ⟨by decide +kernel, List.all_eq_true.mp mM_overTwo_rows⟩
set_option maxRecDepth 100000 in
theorem mM_overTwo_ok : cx_mok mM_overTwo := ⟨cx_in1 (i := 1062) (by rfl) rfl, by decide, mM_overTwo_mo⟩
theorem mM_overThree_rows : (cx_t mM_overThree).all (cx_row mM_overThree) = true := by decide +kernel
theorem mM_overThree_mo : cx_mo mM_overThree := ⟨by decide +kernel, List.all_eq_true.mp mM_overThree_rows⟩
set_option maxRecDepth 100000 in
theorem mM_overThree_ok : cx_mok mM_overThree := ⟨cx_in1 (i := 1058) (by rfl) rfl, by decide, mM_overThree_mo⟩
theorem mM_isNet_rows : (cx_t mM_isNet).all (cx_row mM_isNet) = true := by decide +kernel
theorem mM_isNet_mo : cx_mo mM_isNet := ⟨by decide +kernel, List.all_eq_true.mp mM_isNet_rows⟩
set_option maxRecDepth 100000 in
theorem mM_isNet_ok : cx_mok mM_isNet := ⟨cx_in1 (i := 1054) (by rfl) rfl, by decide, mM_isNet_mo⟩
theorem mM_changed_rows : (cx_t mM_changed).all (cx_row mM_changed) = true := by decide +kernel
theorem mM_changed_mo : cx_mo mM_changed := ⟨by decide +kernel, List.all_eq_true.mp mM_changed_rows⟩
set_option maxRecDepth 100000 in
theorem mM_changed_ok : cx_mok mM_changed := ⟨cx_in1 (i := 1042) (by rfl) rfl, by decide, mM_changed_mo⟩
theorem mM_newNet_rows : (cx_t mM_newNet).all (cx_row mM_newNet) = true := by decide +kernel
theorem mM_newNet_mo : cx_mo mM_newNet := ⟨by decide +kernel, List.all_eq_true.mp mM_newNet_rows⟩
set_option maxRecDepth 100000 in
theorem mM_newNet_ok : cx_mok mM_newNet := ⟨cx_in1 (i := 1038) (by rfl) rfl, by decide, mM_newNet_mo⟩
theorem mM_input_rows : (cx_t mM_input).all (cx_row mM_input) = true := by decide +kernel
theorem mM_input_mo : cx_mo mM_input := ⟨by decide +kernel, List.all_eq_true.mp mM_input_rows⟩
set_option maxRecDepth 100000 in
theorem mM_input_ok : cx_mok mM_input := ⟨cx_in1 (i := 1030) (by rfl) rfl, by decide, mM_input_mo⟩
theorem mM_latch_rows : (cx_t mM_latch).all (cx_row mM_latch) = true := by decide +kernel
theorem mM_latch_mo : cx_mo mM_latch := ⟨by decide +kernel, List.all_eq_true.mp mM_latch_rows⟩
set_option maxRecDepth 100000 in
theorem mM_latch_ok : cx_mok mM_latch := ⟨cx_in1 (i := 1046) (by rfl) rfl, by decide, mM_latch_mo⟩
theorem mM_function_rows : (cx_t mM_function).all (cx_row mM_function) = true := by decide +kernel
theorem mM_function_mo : cx_mo mM_function := ⟨by decide +kernel, List.all_eq_true.mp mM_function_rows⟩
set_option maxRecDepth 100000 in
theorem mM_function_ok : cx_mok mM_function := ⟨cx_in1 (i := 1050) (by rfl) rfl, by decide, mM_function_mo⟩
theorem mM_drive_rows : (cx_t mM_drive).all (cx_row mM_drive) = true := by decide +kernel
theorem mM_drive_mo : cx_mo mM_drive := ⟨by decide +kernel, List.all_eq_true.mp mM_drive_rows⟩
set_option maxRecDepth 100000 in
theorem mM_drive_ok : cx_mok mM_drive := ⟨cx_in1 (i := 1089) (by rfl) rfl, by decide, mM_drive_mo⟩
theorem mM_output_rows : (cx_t mM_output).all (cx_row mM_output) = true := by decide +kernel
theorem mM_output_mo : cx_mo mM_output := ⟨by decide +kernel, List.all_eq_true.mp mM_output_rows⟩
set_option maxRecDepth 100000 in
theorem mM_output_ok : cx_mok mM_output := ⟨cx_in1 (i := 1093) (by rfl) rfl, by decide, mM_output_mo⟩
theorem mM_isPattern_rows : (cx_t mM_isPattern).all (cx_row mM_isPattern) = true := by decide +kernel
theorem mM_isPattern_mo : cx_mo mM_isPattern := ⟨by decide +kernel, List.all_eq_true.mp mM_isPattern_rows⟩
set_option maxRecDepth 100000 in
theorem mM_isPattern_ok : cx_mok mM_isPattern := ⟨cx_in1 (i := 1100) (by rfl) rfl, by decide, mM_isPattern_mo⟩
theorem mM_cell_rows : (cx_t mM_cell).all (cx_row mM_cell) = true := by decide +kernel
theorem mM_cell_mo : cx_mo mM_cell := ⟨by decide +kernel, List.all_eq_true.mp mM_cell_rows⟩
set_option maxRecDepth 100000 in
theorem mM_cell_ok : cx_mok mM_cell := ⟨cx_in1 (i := 1097) (by rfl) rfl, by decide, mM_cell_mo⟩
theorem mM_nodes_rows : (cx_t mM_nodes).all (cx_row mM_nodes) = true := by decide +kernel
theorem mM_nodes_mo : cx_mo mM_nodes := ⟨by decide +kernel, List.all_eq_true.mp mM_nodes_rows⟩
set_option maxRecDepth 100000 in
theorem mM_nodes_ok : cx_mok mM_nodes := ⟨cx_in1 (i := 1104) (by rfl) rfl, by decide, mM_nodes_mo⟩
theorem mM_nodeOf_rows : (cx_t mM_nodeOf).all (cx_row mM_nodeOf) = true := by decide +kernel
theorem mM_nodeOf_mo : cx_mo mM_nodeOf := ⟨by decide +kernel, List.all_eq_true.mp mM_nodeOf_rows⟩
set_option maxRecDepth 100000 in
theorem mM_nodeOf_ok : cx_mok mM_nodeOf := ⟨cx_in1 (i := 1108) (by rfl) rfl, by decide, mM_nodeOf_mo⟩
theorem mM_part_rows : (cx_t mM_part).all (cx_row mM_part) = true := by decide +kernel
theorem mM_part_mo : cx_mo mM_part := ⟨by decide +kernel, List.all_eq_true.mp mM_part_rows⟩
set_option maxRecDepth 100000 in
theorem mM_part_ok : cx_mok mM_part := ⟨cx_in1 (i := 1112) (by rfl) rfl, by decide, mM_part_mo⟩
theorem mM_logic_rows : (cx_t mM_logic).all (cx_row mM_logic) = true := by decide +kernel
theorem mM_logic_mo : cx_mo mM_logic := ⟨by decide +kernel, List.all_eq_true.mp mM_logic_rows⟩
set_option maxRecDepth 100000 in
theorem mM_logic_ok : cx_mok mM_logic := ⟨cx_in1 (i := 1144) (by rfl) rfl, by decide, mM_logic_mo⟩
theorem mM_needed_rows : (cx_t mM_needed).all (cx_row mM_needed) = true := by decide +kernel
theorem mM_needed_mo : cx_mo mM_needed := ⟨by decide +kernel, List.all_eq_true.mp mM_needed_rows⟩
set_option maxRecDepth 100000 in
theorem mM_needed_ok : cx_mok mM_needed := ⟨cx_in1 (i := 1140) (by rfl) rfl, by decide, mM_needed_mo⟩
theorem mM_findRoots_rows : (cx_t mM_findRoots).all (cx_row mM_findRoots) = true := by decide +kernel
theorem mM_findRoots_mo : cx_mo mM_findRoots := ⟨by decide +kernel, List.all_eq_true.mp mM_findRoots_rows⟩
set_option maxRecDepth 100000 in
theorem mM_findRoots_ok : cx_mok mM_findRoots := ⟨cx_in1 (i := 1136) (by rfl) rfl, by decide, mM_findRoots_mo⟩
theorem mM_nands_rows : (cx_t mM_nands).all (cx_row mM_nands) = true := by decide +kernel
theorem mM_nands_mo : cx_mo mM_nands := ⟨by decide +kernel, List.all_eq_true.mp mM_nands_rows⟩
set_option maxRecDepth 100000 in
theorem mM_nands_ok : cx_mok mM_nands := ⟨cx_in1 (i := 1153) (by rfl) rfl, by decide, mM_nands_mo⟩
theorem mM_lay_rows : (cx_t mM_lay).all (cx_row mM_lay) = true := by decide +kernel
theorem mM_lay_mo : cx_mo mM_lay := ⟨by decide +kernel, List.all_eq_true.mp mM_lay_rows⟩
set_option maxRecDepth 100000 in
theorem mM_lay_ok : cx_mok mM_lay := ⟨cx_in1 (i := 1157) (by rfl) rfl, by decide, mM_lay_mo⟩
theorem mM_choose_rows : (cx_t mM_choose).all (cx_row mM_choose) = true := by decide +kernel
theorem mM_choose_mo : cx_mo mM_choose := ⟨by decide +kernel, List.all_eq_true.mp mM_choose_rows⟩
set_option maxRecDepth 100000 in
theorem mM_choose_ok : cx_mok mM_choose := ⟨cx_in1 (i := 1148) (by rfl) rfl, by decide, mM_choose_mo⟩
theorem mM_connect_rows : (cx_t mM_connect).all (cx_row mM_connect) = true := by decide +kernel
theorem mM_connect_mo : cx_mo mM_connect := ⟨by decide +kernel, List.all_eq_true.mp mM_connect_rows⟩
set_option maxRecDepth 100000 in
theorem mM_connect_ok : cx_mok mM_connect := ⟨cx_in1 (i := 1161) (by rfl) rfl, by decide, mM_connect_mo⟩
theorem mM_cover_rows : (cx_t mM_cover).all (cx_row mM_cover) = true := by decide +kernel
theorem mM_cover_mo : cx_mo mM_cover := ⟨by decide +kernel, List.all_eq_true.mp mM_cover_rows⟩
set_option maxRecDepth 100000 in
theorem mM_cover_ok : cx_mok mM_cover := ⟨cx_in1 (i := 1132) (by rfl) rfl, by decide, mM_cover_mo⟩
theorem mM_delay_rows : (cx_t mM_delay).all (cx_row mM_delay) = true := by decide +kernel
theorem mM_delay_mo : cx_mo mM_delay := ⟨by decide +kernel, List.all_eq_true.mp mM_delay_rows⟩
set_option maxRecDepth 100000 in
theorem mM_delay_ok : cx_mok mM_delay := ⟨cx_in1 (i := 1169) (by rfl) rfl, by decide, mM_delay_mo⟩
theorem mM_shorter_rows : (cx_t mM_shorter).all (cx_row mM_shorter) = true := by decide +kernel
theorem mM_shorter_mo : cx_mo mM_shorter := ⟨by decide +kernel, List.all_eq_true.mp mM_shorter_rows⟩
set_option maxRecDepth 100000 in
theorem mM_shorter_ok : cx_mok mM_shorter := ⟨cx_in1 (i := 1173) (by rfl) rfl, by decide, mM_shorter_mo⟩
theorem mM_measure_rows : (cx_t mM_measure).all (cx_row mM_measure) = true := by decide +kernel
theorem mM_measure_mo : cx_mo mM_measure := ⟨by decide +kernel, List.all_eq_true.mp mM_measure_rows⟩
set_option maxRecDepth 100000 in
theorem mM_measure_ok : cx_mok mM_measure := ⟨cx_in1 (i := 1165) (by rfl) rfl, by decide, mM_measure_mo⟩
theorem mM_raise_rows : (cx_t mM_raise).all (cx_row mM_raise) = true := by decide +kernel
theorem mM_raise_mo : cx_mo mM_raise := ⟨by decide +kernel, List.all_eq_true.mp mM_raise_rows⟩
set_option maxRecDepth 100000 in
theorem mM_raise_ok : cx_mok mM_raise := ⟨cx_in1 (i := 1185) (by rfl) rfl, by decide, mM_raise_mo⟩
theorem mM_reachable_rows : (cx_t mM_reachable).all (cx_row mM_reachable) = true := by decide +kernel
theorem mM_reachable_mo : cx_mo mM_reachable := ⟨by decide +kernel, List.all_eq_true.mp mM_reachable_rows⟩
set_option maxRecDepth 100000 in
theorem mM_reachable_ok : cx_mok mM_reachable := ⟨cx_in1 (i := 1181) (by rfl) rfl, by decide, mM_reachable_mo⟩
theorem mM_shorten_rows : (cx_t mM_shorten).all (cx_row mM_shorten) = true := by decide +kernel
theorem mM_shorten_mo : cx_mo mM_shorten := ⟨by decide +kernel, List.all_eq_true.mp mM_shorten_rows⟩
set_option maxRecDepth 100000 in
theorem mM_shorten_ok : cx_mok mM_shorten := ⟨cx_in1 (i := 1177) (by rfl) rfl, by decide, mM_shorten_mo⟩
theorem mM_comes_rows : (cx_t mM_comes).all (cx_row mM_comes) = true := by decide +kernel
theorem mM_comes_mo : cx_mo mM_comes := ⟨by decide +kernel, List.all_eq_true.mp mM_comes_rows⟩
set_option maxRecDepth 100000 in
theorem mM_comes_ok : cx_mok mM_comes := ⟨cx_in1 (i := 1205) (by rfl) rfl, by decide, mM_comes_mo⟩
theorem mM_told_rows : (cx_t mM_told).all (cx_row mM_told) = true := by decide +kernel
theorem mM_told_mo : cx_mo mM_told := ⟨by decide +kernel, List.all_eq_true.mp mM_told_rows⟩
set_option maxRecDepth 100000 in
theorem mM_told_ok : cx_mok mM_told := ⟨cx_in1 (i := 1201) (by rfl) rfl, by decide, mM_told_mo⟩
theorem mM_pinsOf_rows : (cx_t mM_pinsOf).all (cx_row mM_pinsOf) = true := by decide +kernel
theorem mM_pinsOf_mo : cx_mo mM_pinsOf := ⟨by decide +kernel, List.all_eq_true.mp mM_pinsOf_rows⟩
set_option maxRecDepth 100000 in
theorem mM_pinsOf_ok : cx_mok mM_pinsOf := ⟨cx_in1 (i := 1197) (by rfl) rfl, by decide, mM_pinsOf_mo⟩
theorem mM_work_rows : (cx_t mM_work).all (cx_row mM_work) = true := by decide +kernel
theorem mM_work_mo : cx_mo mM_work := ⟨by decide +kernel, List.all_eq_true.mp mM_work_rows⟩
set_option maxRecDepth 100000 in
theorem mM_work_ok : cx_mok mM_work := ⟨cx_in1 (i := 1209) (by rfl) rfl, by decide, mM_work_mo⟩
theorem mM_give_rows : (cx_t mM_give).all (cx_row mM_give) = true := by decide +kernel
theorem mM_give_mo : cx_mo mM_give := ⟨by decide +kernel, List.all_eq_true.mp mM_give_rows⟩
set_option maxRecDepth 100000 in
theorem mM_give_ok : cx_mok mM_give := ⟨cx_in1 (i := 1193) (by rfl) rfl, by decide, mM_give_mo⟩
theorem mM_retime_rows : (cx_t mM_retime).all (cx_row mM_retime) = true := by decide +kernel
theorem mM_retime_mo : cx_mo mM_retime := ⟨by decide +kernel, List.all_eq_true.mp mM_retime_rows⟩
set_option maxRecDepth 100000 in
theorem mM_retime_ok : cx_mok mM_retime := ⟨cx_in1 (i := 1189) (by rfl) rfl, by decide, mM_retime_mo⟩
theorem mM_undriven_rows : (cx_t mM_undriven).all (cx_row mM_undriven) = true := by decide +kernel
theorem mM_undriven_mo : cx_mo mM_undriven := ⟨by decide +kernel, List.all_eq_true.mp mM_undriven_rows⟩
set_option maxRecDepth 100000 in
theorem mM_undriven_ok : cx_mok mM_undriven := ⟨cx_in1 (i := 1120) (by rfl) rfl, by decide, mM_undriven_mo⟩
theorem mM_ring_rows : (cx_t mM_ring).all (cx_row mM_ring) = true := by decide +kernel
theorem mM_ring_mo : cx_mo mM_ring := ⟨by decide +kernel, List.all_eq_true.mp mM_ring_rows⟩
set_option maxRecDepth 100000 in
theorem mM_ring_ok : cx_mok mM_ring := ⟨cx_in1 (i := 1124) (by rfl) rfl, by decide, mM_ring_mo⟩
theorem mM_hasCell_rows : (cx_t mM_hasCell).all (cx_row mM_hasCell) = true := by decide +kernel
theorem mM_hasCell_mo : cx_mo mM_hasCell := ⟨by decide +kernel, List.all_eq_true.mp mM_hasCell_rows⟩
set_option maxRecDepth 100000 in
theorem mM_hasCell_ok : cx_mok mM_hasCell := ⟨cx_in1 (i := 1128) (by rfl) rfl, by decide, mM_hasCell_mo⟩
theorem mM_gates_rows : (cx_t mM_gates).all (cx_row mM_gates) = true := by decide +kernel
theorem mM_gates_mo : cx_mo mM_gates := ⟨by decide +kernel, List.all_eq_true.mp mM_gates_rows⟩
set_option maxRecDepth 100000 in
theorem mM_gates_ok : cx_mok mM_gates := ⟨cx_in1 (i := 1213) (by rfl) rfl, by decide, mM_gates_mo⟩
theorem mM_map_rows : (cx_t mM_map).all (cx_row mM_map) = true := by decide +kernel
theorem mM_map_mo : cx_mo mM_map := ⟨by decide +kernel, List.all_eq_true.mp mM_map_rows⟩
set_option maxRecDepth 100000 in
theorem mM_map_ok : cx_mok mM_map := ⟨cx_in1 (i := 1116) (by rfl) rfl, by decide, mM_map_mo⟩
theorem mM_area_rows : (cx_t mM_area).all (cx_row mM_area) = true := by decide +kernel
theorem mM_area_mo : cx_mo mM_area := ⟨by decide +kernel, List.all_eq_true.mp mM_area_rows⟩
set_option maxRecDepth 100000 in
theorem mM_area_ok : cx_mok mM_area := ⟨cx_in1 (i := 1217) (by rfl) rfl, by decide, mM_area_mo⟩
theorem mM_isGate_rows : (cx_t mM_isGate).all (cx_row mM_isGate) = true := by decide +kernel
theorem mM_isGate_mo : cx_mo mM_isGate := ⟨by decide +kernel, List.all_eq_true.mp mM_isGate_rows⟩
set_option maxRecDepth 100000 in
theorem mM_isGate_ok : cx_mok mM_isGate := ⟨cx_in1 (i := 1225) (by rfl) rfl, by decide, mM_isGate_mo⟩
theorem mM_cellAt_rows : (cx_t mM_cellAt).all (cx_row mM_cellAt) = true := by decide +kernel
theorem mM_cellAt_mo : cx_mo mM_cellAt := ⟨by decide +kernel, List.all_eq_true.mp mM_cellAt_rows⟩
set_option maxRecDepth 100000 in
theorem mM_cellAt_ok : cx_mok mM_cellAt := ⟨cx_in1 (i := 1221) (by rfl) rfl, by decide, mM_cellAt_mo⟩
theorem mM_period_rows : (cx_t mM_period).all (cx_row mM_period) = true := by decide +kernel
theorem mM_period_mo : cx_mo mM_period := ⟨by decide +kernel, List.all_eq_true.mp mM_period_rows⟩
set_option maxRecDepth 100000 in
theorem mM_period_ok : cx_mok mM_period := ⟨cx_in1 (i := 1229) (by rfl) rfl, by decide, mM_period_mo⟩
theorem mM_shortest_rows : (cx_t mM_shortest).all (cx_row mM_shortest) = true := by decide +kernel
theorem mM_shortest_mo : cx_mo mM_shortest := ⟨by decide +kernel, List.all_eq_true.mp mM_shortest_rows⟩
set_option maxRecDepth 100000 in
theorem mM_shortest_ok : cx_mok mM_shortest := ⟨cx_in1 (i := 1233) (by rfl) rfl, by decide, mM_shortest_mo⟩
theorem mM_moves_rows : (cx_t mM_moves).all (cx_row mM_moves) = true := by decide +kernel
theorem mM_moves_mo : cx_mo mM_moves := ⟨by decide +kernel, List.all_eq_true.mp mM_moves_rows⟩
set_option maxRecDepth 100000 in
theorem mM_moves_ok : cx_mok mM_moves := ⟨cx_in1 (i := 1237) (by rfl) rfl, by decide, mM_moves_mo⟩
theorem mM_latches_rows : (cx_t mM_latches).all (cx_row mM_latches) = true := by decide +kernel
theorem mM_latches_mo : cx_mo mM_latches := ⟨by decide +kernel, List.all_eq_true.mp mM_latches_rows⟩
set_option maxRecDepth 100000 in
theorem mM_latches_ok : cx_mok mM_latches := ⟨cx_in1 (i := 1241) (by rfl) rfl, by decide, mM_latches_mo⟩
theorem mM_entering_rows : (cx_t mM_entering).all (cx_row mM_entering) = true := by decide +kernel
theorem mM_entering_mo : cx_mo mM_entering := ⟨by decide +kernel, List.all_eq_true.mp mM_entering_rows⟩
set_option maxRecDepth 100000 in
theorem mM_entering_ok : cx_mok mM_entering := ⟨cx_in1 (i := 1252) (by rfl) rfl, by decide, mM_entering_mo⟩
theorem mM_clock_rows : (cx_t mM_clock).all (cx_row mM_clock) = true := by decide +kernel
theorem mM_clock_mo : cx_mo mM_clock := ⟨by decide +kernel, List.all_eq_true.mp mM_clock_rows⟩
set_option maxRecDepth 100000 in
theorem mM_clock_ok : cx_mok mM_clock := ⟨cx_in1 (i := 1248) (by rfl) rfl, by decide, mM_clock_mo⟩
theorem mM_arrived_rows : (cx_t mM_arrived).all (cx_row mM_arrived) = true := by decide +kernel
theorem mM_arrived_mo : cx_mo mM_arrived := ⟨by decide +kernel, List.all_eq_true.mp mM_arrived_rows⟩
set_option maxRecDepth 100000 in
theorem mM_arrived_ok : cx_mok mM_arrived := ⟨cx_in1 (i := 1264) (by rfl) rfl, by decide, mM_arrived_mo⟩
theorem mM_ending_rows : (cx_t mM_ending).all (cx_row mM_ending) = true := by decide +kernel
theorem mM_ending_mo : cx_mo mM_ending := ⟨by decide +kernel, List.all_eq_true.mp mM_ending_rows⟩
set_option maxRecDepth 100000 in
theorem mM_ending_ok : cx_mok mM_ending := ⟨cx_in1 (i := 1268) (by rfl) rfl, by decide, mM_ending_mo⟩
theorem mM_worked_rows : (cx_t mM_worked).all (cx_row mM_worked) = true := by decide +kernel
theorem mM_worked_mo : cx_mo mM_worked := ⟨by decide +kernel, List.all_eq_true.mp mM_worked_rows⟩
set_option maxRecDepth 100000 in
theorem mM_worked_ok : cx_mok mM_worked := ⟨cx_in1 (i := 1260) (by rfl) rfl, by decide, mM_worked_mo⟩
theorem mM_clockRetimed_rows : (cx_t mM_clockRetimed).all (cx_row mM_clockRetimed) = true := by decide +kernel
theorem mM_clockRetimed_mo : cx_mo mM_clockRetimed := ⟨by decide +kernel, List.all_eq_true.mp mM_clockRetimed_rows⟩
set_option maxRecDepth 100000 in
theorem mM_clockRetimed_ok : cx_mok mM_clockRetimed := ⟨cx_in1 (i := 1256) (by rfl) rfl, by decide, mM_clockRetimed_mo⟩
theorem mM_reset_rows : (cx_t mM_reset).all (cx_row mM_reset) = true := by decide +kernel
theorem mM_reset_mo : cx_mo mM_reset := ⟨by decide +kernel, List.all_eq_true.mp mM_reset_rows⟩
set_option maxRecDepth 100000 in
theorem mM_reset_ok : cx_mok mM_reset := ⟨cx_in1 (i := 1272) (by rfl) rfl, by decide, mM_reset_mo⟩
theorem mLaw_law_rows : (cx_t mLaw_law).all (cx_row mLaw_law) = true := by decide +kernel
theorem mLaw_law_mo : cx_mo mLaw_law := ⟨by decide +kernel, List.all_eq_true.mp mLaw_law_rows⟩
theorem mArr_fill_rows : (cx_t mArr_fill).all (cx_row mArr_fill) = true := by decide +kernel
theorem mArr_fill_mo : cx_mo mArr_fill := ⟨by decide +kernel, List.all_eq_true.mp mArr_fill_rows⟩
set_option maxRecDepth 100000 in
theorem mArr_fill_ok : cx_mok mArr_fill := ⟨cx_in1 (i := 515) (by rfl) rfl, by decide, mArr_fill_mo⟩
set_option maxRecDepth 100000 in
theorem cx_ms_ok : ∀ M ∈ cx_ms, cx_mok M := List.forall_mem_cons.mpr ⟨mC_init_ok, List.forall_mem_cons.mpr ⟨mC_input_ok, List.forall_mem_cons.mpr ⟨mC_latch_ok, List.forall_mem_cons.mpr ⟨mC_function_ok, List.forall_mem_cons.mpr ⟨mC_drive_ok, List.forall_mem_cons.mpr ⟨mC_output_ok, List.forall_mem_cons.mpr ⟨mC_cell_ok, List.forall_mem_cons.mpr ⟨mC_nodes_ok, List.forall_mem_cons.mpr ⟨mC_nodeOf_ok, List.forall_mem_cons.mpr ⟨mC_part_ok, List.forall_mem_cons.mpr ⟨mC_map_ok, List.forall_mem_cons.mpr ⟨mC_area_ok, List.forall_mem_cons.mpr ⟨mC_cellAt_ok, List.forall_mem_cons.mpr ⟨mC_period_ok, List.forall_mem_cons.mpr ⟨mC_shortest_ok, List.forall_mem_cons.mpr ⟨mC_moves_ok, List.forall_mem_cons.mpr ⟨mC_latches_ok, List.forall_mem_cons.mpr ⟨mC_clock_ok, List.forall_mem_cons.mpr ⟨mC_clockRetimed_ok, List.forall_mem_cons.mpr ⟨mC_reset_ok, List.forall_mem_cons.mpr ⟨mC_afterAdding_ok, List.forall_mem_cons.mpr ⟨mC_isTable_ok, List.forall_mem_cons.mpr ⟨mC_connectionOf_ok, List.forall_mem_cons.mpr ⟨mGr_init_ok, List.forall_mem_cons.mpr ⟨mGr_size_ok, List.forall_mem_cons.mpr ⟨mGr_isNode_ok, List.forall_mem_cons.mpr ⟨mGr_isInput_ok, List.forall_mem_cons.mpr ⟨mGr_isLatch_ok, List.forall_mem_cons.mpr ⟨mGr_isInv_ok, List.forall_mem_cons.mpr ⟨mGr_isNand_ok, List.forall_mem_cons.mpr ⟨mGr_isLogic_ok, List.forall_mem_cons.mpr ⟨mGr_x_ok, List.forall_mem_cons.mpr ⟨mGr_y_ok, List.forall_mem_cons.mpr ⟨mGr_ordinal_ok, List.forall_mem_cons.mpr ⟨mGr_makeInput_ok, List.forall_mem_cons.mpr ⟨mGr_makeLatch_ok, List.forall_mem_cons.mpr ⟨mGr_inv_ok, List.forall_mem_cons.mpr ⟨mGr_nand_ok, List.forall_mem_cons.mpr ⟨mGr_findOrMake_ok, List.forall_mem_cons.mpr ⟨mGr_make_ok, List.forall_mem_cons.mpr ⟨mCi_init_ok, List.forall_mem_cons.mpr ⟨mCi_isNet_ok, List.forall_mem_cons.mpr ⟨mCi_netNode_ok, List.forall_mem_cons.mpr ⟨mCi_isOutput_ok, List.forall_mem_cons.mpr ⟨mCi_outputCount_ok, List.forall_mem_cons.mpr ⟨mCi_outputNode_ok, List.forall_mem_cons.mpr ⟨mCi_latchCount_ok, List.forall_mem_cons.mpr ⟨mCi_drivingNode_ok, List.forall_mem_cons.mpr ⟨mCi_initialValue_ok, List.forall_mem_cons.mpr ⟨mCi_addInput_ok, List.forall_mem_cons.mpr ⟨mCi_addLatch_ok, List.forall_mem_cons.mpr ⟨mCi_countArguments_ok, List.forall_mem_cons.mpr ⟨mCi_addFunction_ok, List.forall_mem_cons.mpr ⟨mCi_setDriver_ok, List.forall_mem_cons.mpr ⟨mCi_addOutput_ok, List.forall_mem_cons.mpr ⟨mCi_hasUndrivenLatch_ok, List.forall_mem_cons.mpr ⟨mCi_hasLatchRing_ok, List.forall_mem_cons.mpr ⟨mCi_restart_ok, List.forall_mem_cons.mpr ⟨mCi_runCycle_ok, List.forall_mem_cons.mpr ⟨mCi_nodeValue_ok, List.forall_mem_cons.mpr ⟨mCi_tableNode_ok, List.forall_mem_cons.mpr ⟨mCi_joinHalves_ok, List.forall_mem_cons.mpr ⟨mCi_isConstant_ok, List.forall_mem_cons.mpr ⟨mCi_isNetOrNone_ok, List.forall_mem_cons.mpr ⟨mCi_addNet_ok, List.forall_mem_cons.mpr ⟨mLi_init_ok, List.forall_mem_cons.mpr ⟨mLi_size_ok, List.forall_mem_cons.mpr ⟨mLi_cost_ok, List.forall_mem_cons.mpr ⟨mLi_delay_ok, List.forall_mem_cons.mpr ⟨mLi_pins_ok, List.forall_mem_cons.mpr ⟨mLi_nands_ok, List.forall_mem_cons.mpr ⟨mLi_digit_ok, List.forall_mem_cons.mpr ⟨mLi_value_ok, List.forall_mem_cons.mpr ⟨mLi_coversEveryNode_ok, List.forall_mem_cons.mpr ⟨mLi_addCell_ok, List.forall_mem_cons.mpr ⟨mLi_hasPattern_ok, List.forall_mem_cons.mpr ⟨mLi_digitOf_ok, List.forall_mem_cons.mpr ⟨mLi_isPattern_ok, List.forall_mem_cons.mpr ⟨mLi_countDigits_ok, List.forall_mem_cons.mpr ⟨mLi_tableOf_ok, List.forall_mem_cons.mpr ⟨mLi_valueOf_ok, List.forall_mem_cons.mpr ⟨mCo_init_ok, List.forall_mem_cons.mpr ⟨mCo_gateCount_ok, List.forall_mem_cons.mpr ⟨mCo_gate_ok, List.forall_mem_cons.mpr ⟨mCo_isGate_ok, List.forall_mem_cons.mpr ⟨mCo_gateCell_ok, List.forall_mem_cons.mpr ⟨mCo_gatePins_ok, List.forall_mem_cons.mpr ⟨mCo_gateDelay_ok, List.forall_mem_cons.mpr ⟨mCo_gateValue_ok, List.forall_mem_cons.mpr ⟨mCo_pinNode_ok, List.forall_mem_cons.mpr ⟨mCo_totalArea_ok, List.forall_mem_cons.mpr ⟨mCo_choose_ok, List.forall_mem_cons.mpr ⟨mCo_markNeeded_ok, List.forall_mem_cons.mpr ⟨mCo_countLiveUsers_ok, List.forall_mem_cons.mpr ⟨mCo_isLive_ok, List.forall_mem_cons.mpr ⟨mCo_isRoot_ok, List.forall_mem_cons.mpr ⟨mCo_chooseAt_ok, List.forall_mem_cons.mpr ⟨mCo_keepIfCheaper_ok, List.forall_mem_cons.mpr ⟨mCo_laidCost_ok, List.forall_mem_cons.mpr ⟨mCo_lay_ok, List.forall_mem_cons.mpr ⟨mCo_markGates_ok, List.forall_mem_cons.mpr ⟨mCo_markPins_ok, List.forall_mem_cons.mpr ⟨mCo_listGates_ok, List.forall_mem_cons.mpr ⟨mCn_init_ok, List.forall_mem_cons.mpr ⟨mCn_size_ok, List.forall_mem_cons.mpr ⟨mCn_source_ok, List.forall_mem_cons.mpr ⟨mCn_target_ok, List.forall_mem_cons.mpr ⟨mCn_count_ok, List.forall_mem_cons.mpr ⟨mCn_row_ok, List.forall_mem_cons.mpr ⟨mCn_ofGate_ok, List.forall_mem_cons.mpr ⟨mCn_ofOutput_ok, List.forall_mem_cons.mpr ⟨mCn_describe_ok, List.forall_mem_cons.mpr ⟨mCn_connect_ok, List.forall_mem_cons.mpr ⟨mCn_takeLast_ok, List.forall_mem_cons.mpr ⟨mCn_putFirst_ok, List.forall_mem_cons.mpr ⟨mCn_connectGate_ok, List.forall_mem_cons.mpr ⟨mCn_add_ok, List.forall_mem_cons.mpr ⟨mRe_init_ok, List.forall_mem_cons.mpr ⟨mRe_periodBefore_ok, List.forall_mem_cons.mpr ⟨mRe_periodAfter_ok, List.forall_mem_cons.mpr ⟨mRe_movesAt_ok, List.forall_mem_cons.mpr ⟨mRe_shorten_ok, List.forall_mem_cons.mpr ⟨mRe_slowestGate_ok, List.forall_mem_cons.mpr ⟨mRe_measure_ok, List.forall_mem_cons.mpr ⟨mRe_growTails_ok, List.forall_mem_cons.mpr ⟨mRe_trialCount_ok, List.forall_mem_cons.mpr ⟨mRe_raise_ok, List.forall_mem_cons.mpr ⟨mRe_hasTakenTooMany_ok, List.forall_mem_cons.mpr ⟨mRe_makeMoves_ok, List.forall_mem_cons.mpr ⟨mRe_canMove_ok, List.forall_mem_cons.mpr ⟨mRe_moveAt_ok, List.forall_mem_cons.mpr ⟨mMa_init_ok, List.forall_mem_cons.mpr ⟨mMa_arrange_ok, List.forall_mem_cons.mpr ⟨mMa_restart_ok, List.forall_mem_cons.mpr ⟨mMa_runCycle_ok, List.forall_mem_cons.mpr ⟨mMa_isReady_ok, List.forall_mem_cons.mpr ⟨mMa_readInputs_ok, List.forall_mem_cons.mpr ⟨mMa_outputValue_ok, List.forall_mem_cons.mpr ⟨mMa_arrivingValue_ok, List.forall_mem_cons.mpr ⟨mMa_shiftRows_ok, List.forall_mem_cons.mpr ⟨mM_init_ok, List.forall_mem_cons.mpr ⟨mM_newNode_ok, List.forall_mem_cons.mpr ⟨mM_find_ok, List.forall_mem_cons.mpr ⟨mM_inv_ok, List.forall_mem_cons.mpr ⟨mM_nand_ok, List.forall_mem_cons.mpr ⟨mM_join_ok, List.forall_mem_cons.mpr ⟨mM_flat_ok, List.forall_mem_cons.mpr ⟨mM_overOne_ok, List.forall_mem_cons.mpr ⟨mM_overTwo_ok, List.forall_mem_cons.mpr ⟨mM_overThree_ok, List.forall_mem_cons.mpr ⟨mM_isNet_ok, List.forall_mem_cons.mpr ⟨mM_changed_ok, List.forall_mem_cons.mpr ⟨mM_newNet_ok, List.forall_mem_cons.mpr ⟨mM_input_ok, List.forall_mem_cons.mpr ⟨mM_latch_ok, List.forall_mem_cons.mpr ⟨mM_function_ok, List.forall_mem_cons.mpr ⟨mM_drive_ok, List.forall_mem_cons.mpr ⟨mM_output_ok, List.forall_mem_cons.mpr ⟨mM_isPattern_ok, List.forall_mem_cons.mpr ⟨mM_cell_ok, List.forall_mem_cons.mpr ⟨mM_nodes_ok, List.forall_mem_cons.mpr ⟨mM_nodeOf_ok, List.forall_mem_cons.mpr ⟨mM_part_ok, List.forall_mem_cons.mpr ⟨mM_logic_ok, List.forall_mem_cons.mpr ⟨mM_needed_ok, List.forall_mem_cons.mpr ⟨mM_findRoots_ok, List.forall_mem_cons.mpr ⟨mM_nands_ok, List.forall_mem_cons.mpr ⟨mM_lay_ok, List.forall_mem_cons.mpr ⟨mM_choose_ok, List.forall_mem_cons.mpr ⟨mM_connect_ok, List.forall_mem_cons.mpr ⟨mM_cover_ok, List.forall_mem_cons.mpr ⟨mM_delay_ok, List.forall_mem_cons.mpr ⟨mM_shorter_ok, List.forall_mem_cons.mpr ⟨mM_measure_ok, List.forall_mem_cons.mpr ⟨mM_raise_ok, List.forall_mem_cons.mpr ⟨mM_reachable_ok, List.forall_mem_cons.mpr ⟨mM_shorten_ok, List.forall_mem_cons.mpr ⟨mM_comes_ok, List.forall_mem_cons.mpr ⟨mM_told_ok, List.forall_mem_cons.mpr ⟨mM_pinsOf_ok, List.forall_mem_cons.mpr ⟨mM_work_ok, List.forall_mem_cons.mpr ⟨mM_give_ok, List.forall_mem_cons.mpr ⟨mM_retime_ok, List.forall_mem_cons.mpr ⟨mM_undriven_ok, List.forall_mem_cons.mpr ⟨mM_ring_ok, List.forall_mem_cons.mpr ⟨mM_hasCell_ok, List.forall_mem_cons.mpr ⟨mM_gates_ok, List.forall_mem_cons.mpr ⟨mM_map_ok, List.forall_mem_cons.mpr ⟨mM_area_ok, List.forall_mem_cons.mpr ⟨mM_isGate_ok, List.forall_mem_cons.mpr ⟨mM_cellAt_ok, List.forall_mem_cons.mpr ⟨mM_period_ok, List.forall_mem_cons.mpr ⟨mM_shortest_ok, List.forall_mem_cons.mpr ⟨mM_moves_ok, List.forall_mem_cons.mpr ⟨mM_latches_ok, List.forall_mem_cons.mpr ⟨mM_entering_ok, List.forall_mem_cons.mpr ⟨mM_clock_ok, List.forall_mem_cons.mpr ⟨mM_arrived_ok, List.forall_mem_cons.mpr ⟨mM_ending_ok, List.forall_mem_cons.mpr ⟨mM_worked_ok, List.forall_mem_cons.mpr ⟨mM_clockRetimed_ok, List.forall_mem_cons.mpr ⟨mM_reset_ok, List.forall_mem_cons.mpr ⟨mC_init_ok, List.forall_mem_cons.mpr ⟨mArr_fill_ok, fun _ h => absurd h List.not_mem_nil⟩⟩⟩⟩⟩⟩⟩⟩⟩⟩⟩⟩⟩⟩⟩⟩⟩⟩⟩⟩⟩⟩⟩⟩⟩⟩⟩⟩⟩⟩⟩⟩⟩⟩⟩⟩⟩⟩⟩⟩⟩⟩⟩⟩⟩⟩⟩⟩⟩⟩⟩⟩⟩⟩⟩⟩⟩⟩⟩⟩⟩⟩⟩⟩⟩⟩⟩⟩⟩⟩⟩⟩⟩⟩⟩⟩⟩⟩⟩⟩⟩⟩⟩⟩⟩⟩⟩⟩⟩⟩⟩⟩⟩⟩⟩⟩⟩⟩⟩⟩⟩⟩⟩⟩⟩⟩⟩⟩⟩⟩⟩⟩⟩⟩⟩⟩⟩⟩⟩⟩⟩⟩⟩⟩⟩⟩⟩⟩⟩⟩⟩⟩⟩⟩⟩⟩⟩⟩⟩⟩⟩⟩⟩⟩⟩⟩⟩⟩⟩⟩⟩⟩⟩⟩⟩⟩⟩⟩⟩⟩⟩⟩⟩⟩⟩⟩⟩⟩⟩⟩⟩⟩⟩⟩⟩⟩⟩⟩⟩⟩⟩⟩⟩⟩⟩⟩⟩⟩⟩⟩⟩⟩⟩⟩⟩⟩⟩⟩⟩⟩⟩⟩⟩⟩
theorem cx_m_ok (a : Nat) : cx_mok (cx_m a) := by
  unfold cx_m
  rw [List.getD_eq_getElem?_getD]
  cases h : cx_ms[a]? with
  | none => exact mC_init_ok
  | some M => exact cx_ms_ok M (List.mem_of_getElem? h)
