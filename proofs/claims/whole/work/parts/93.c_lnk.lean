/-! Links of the constructors and of the law. -/
theorem oi_PT : Cond.methodLink "PlannedTables" 3 Lib.objectInit ∈ nm_tb := nw_22
theorem cl_PT_9 : Cond.classLink "PlannedTables" 9 "PlannedTables$Tables" ∈ nm_tb := nw_25
theorem in_TS : Cond.instantiable "PlannedTables$Tables" 2 ∈ nm_tb := nw_26
theorem iz_TS : Cond.initialized "PlannedTables$Tables" ∈ nm_tb := nw_2
theorem cm_TS_init : nm_cm y_TS_init b_TS_init 2 none 0 := ⟨nw_2, nw_29, by decide, by decide, by decide +kernel, by decide⟩
theorem ci_PT_11 : Cond.methodLink "PlannedTables" 11 y_TS_init ∈ nm_tb := nw_27
theorem ii_TS_init : Cond.instanceMethod y_TS_init ∈ nm_tb := nw_28
theorem cl_PT_20 : Cond.classLink "PlannedTables" 20 "PlannedTables$Plan" ∈ nm_tb := nw_79
theorem in_PN : Cond.instantiable "PlannedTables$Plan" 7 ∈ nm_tb := nw_80
theorem iz_PN : Cond.initialized "PlannedTables$Plan" ∈ nm_tb := nw_4
theorem cm_PN_init : nm_cm y_PN_init b_PN_init 2 none 0 := ⟨nw_4, nw_83, by decide, by decide, by decide +kernel, by decide⟩
theorem ci_PT_22 : Cond.methodLink "PlannedTables" 22 y_PN_init ∈ nm_tb := nw_81
theorem ii_PN_init : Cond.instanceMethod y_PN_init ∈ nm_tb := nw_82
theorem cl_PT_27 : Cond.classLink "PlannedTables" 27 "PlannedTables$Output" ∈ nm_tb := nw_157
theorem in_OP : Cond.instantiable "PlannedTables$Output" 3 ∈ nm_tb := nw_158
theorem iz_OP : Cond.initialized "PlannedTables$Output" ∈ nm_tb := nw_6
theorem cm_OP_init : nm_cm y_OP_init b_OP_init 1 none 0 := ⟨nw_6, nw_161, by decide, by decide, by decide +kernel, by decide⟩
theorem ci_PT_29 : ("PlannedTables", 29, y_OP_init, "PlannedTables") ∈ nm_nw := List.mem_of_getElem? (i := 2) rfl
theorem ii_OP_init : Cond.instanceMethod y_OP_init ∈ nm_tb := nw_160
theorem oi_MD : Cond.methodLink "PlannedTablesModel" 1 Lib.objectInit ∈ nm_tb := nw_626
theorem oi_OP : Cond.methodLink "PlannedTables$Output" 3 Lib.objectInit ∈ nm_tb := nw_162
theorem oi_PN : Cond.methodLink "PlannedTables$Plan" 3 Lib.objectInit ∈ nm_tb := nw_84
theorem cl_PN_15 : Cond.classLink "PlannedTables$Plan" 15 "PlannedTables$Step" ∈ nm_tb := nw_85
theorem in_SP : Cond.instantiable "PlannedTables$Step" 10 ∈ nm_tb := nw_87
theorem iz_SP : Cond.initialized "PlannedTables$Step" ∈ nm_tb := nw_5
theorem cm_SP_init : nm_cm y_SP_init b_SP_init 1 none 0 := ⟨nw_5, nw_90, by decide, by decide, by decide +kernel, by decide⟩
theorem ci_PN_21 : ("PlannedTables$Plan", 21, y_SP_init, "PlannedTables") ∈ nm_nw := List.mem_of_getElem? (i := 1) rfl
theorem ii_SP_init : Cond.instanceMethod y_SP_init ∈ nm_tb := nw_89
theorem oi_RN : Cond.methodLink "PlannedTables$Run" 3 Lib.objectInit ∈ nm_tb := nw_521
theorem oi_SP : Cond.methodLink "PlannedTables$Step" 3 Lib.objectInit ∈ nm_tb := nw_91
theorem fl_SP_9 : nm_fl "PlannedTables$Step" 9 4 9 := ⟨_, _, _, rfl, by decide, rfl, nw_104⟩
theorem oi_TB : Cond.methodLink "PlannedTables$Table" 3 Lib.objectInit ∈ nm_tb := nw_37
theorem fl_TB_9 : nm_fl "PlannedTables$Table" 9 2 2 := ⟨_, _, _, rfl, by decide, rfl, nw_47⟩
theorem oi_TS : Cond.methodLink "PlannedTables$Tables" 3 Lib.objectInit ∈ nm_tb := nw_30
theorem cl_TS_9 : Cond.classLink "PlannedTables$Tables" 9 "PlannedTables$Table" ∈ nm_tb := nw_31
theorem in_TB : Cond.instantiable "PlannedTables$Table" 5 ∈ nm_tb := nw_33
theorem iz_TB : Cond.initialized "PlannedTables$Table" ∈ nm_tb := nw_3
theorem cm_TB_init : nm_cm y_TB_init b_TB_init 1 none 0 := ⟨nw_3, nw_36, by decide, by decide, by decide +kernel, by decide⟩
theorem ci_TS_17 : ("PlannedTables$Tables", 17, y_TB_init, "PlannedTables") ∈ nm_nw := List.mem_of_getElem? (i := 0) rfl
theorem ii_TB_init : Cond.instanceMethod y_TB_init ∈ nm_tb := nw_35
theorem cm_PT_table : nm_cm y_PT_table b_PT_table 2 (some .int) 1 := ⟨nw_1, nw_282, by decide, by decide, by decide +kernel, by decide⟩
theorem cm_PT_index : nm_cm y_PT_index b_PT_index 4 (some .boolean) 2 := ⟨nw_1, nw_380, by decide, by decide, by decide +kernel, by decide⟩
theorem cm_PT_insert : nm_cm y_PT_insert b_PT_insert 2 (some .int) 1 := ⟨nw_1, nw_408, by decide, by decide, by decide +kernel, by decide⟩
theorem cm_PT_delete : nm_cm y_PT_delete b_PT_delete 4 (some .int) 2 := ⟨nw_1, nw_462, by decide, by decide, by decide +kernel, by decide⟩
theorem cm_PT_cell : nm_cm y_PT_cell b_PT_cell 5 (some .int) 3 := ⟨nw_1, nw_493, by decide, by decide, by decide +kernel, by decide⟩
theorem cm_PT_keyFrom : nm_cm y_PT_keyFrom b_PT_keyFrom 4 (some .int) 2 := ⟨nw_1, nw_500, by decide, by decide, by decide +kernel, by decide⟩
theorem cm_PT_run : nm_cm y_PT_run b_PT_run 4 (some .int) 1 := ⟨nw_1, nw_510, by decide, by decide, by decide +kernel, by decide⟩
theorem cm_RN_init : nm_cm y_RN_init b_RN_init 5 none 4 := ⟨nm_in (List.mem_of_getElem? (i := 16) (by decide +kernel)) (by decide +kernel), nw_520, by decide, by decide, by decide +kernel, by decide⟩
theorem ci_PT_141 : Cond.methodLink "PlannedTables" 141 y_RN_init ∈ nm_tb := nw_518
theorem ii_RN_init : Cond.instanceMethod y_RN_init ∈ nm_tb := nw_519
theorem cl_PT_139 : Cond.classLink "PlannedTables" 139 "PlannedTables$Run" ∈ nm_tb := nm_in (List.mem_of_getElem? (i := 516) (by decide +kernel)) (by decide +kernel)
theorem in_RN : Cond.instantiable "PlannedTables$Run" 6 ∈ nm_tb := nm_in (List.mem_of_getElem? (i := 517) (by decide +kernel)) (by decide +kernel)
theorem iz_RN : Cond.initialized "PlannedTables$Run" ∈ nm_tb := nm_in (List.mem_of_getElem? (i := 16) (by decide +kernel)) (by decide +kernel)
theorem ac_int : Cond.arrayClass .int ∈ nm_tb := nm_in (List.mem_of_getElem? (i := 66) (by decide +kernel)) (by decide +kernel)
theorem ac_boolean : Cond.arrayClass .boolean ∈ nm_tb := nm_in (List.mem_of_getElem? (i := 65) (by decide +kernel)) (by decide +kernel)
theorem ac_long : Cond.arrayClass .long ∈ nm_tb := nm_in (List.mem_of_getElem? (i := 907) (by decide +kernel)) (by decide +kernel)
theorem cl_TB_15 : Cond.classLink "PlannedTables$Table" 15 "[[I" ∈ nm_tb := nm_in (List.mem_of_getElem? (i := 38) (by decide +kernel)) (by decide +kernel)
