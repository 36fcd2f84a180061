/-! Names: classes, fields, methods, and the words of the tables that are used. -/
def nf_PT : List (String × String × String × Bool) := [("PlannedTables", "tables", "LPlannedTables$Tables;", true), ("PlannedTables", "staged", "[I", true), ("PlannedTables", "plan", "LPlannedTables$Plan;", true), ("PlannedTables", "output", "LPlannedTables$Output;", true), ("PlannedTables", "latestVisits", "I", false)]
def nf_TS : List (String × String × String × Bool) := [("PlannedTables$Tables", "all", "[LPlannedTables$Table;", true), ("PlannedTables$Tables", "made", "I", false)]
def nf_TB : List (String × String × String × Bool) := [("PlannedTables$Table", "columns", "I", false), ("PlannedTables$Table", "count", "I", false), ("PlannedTables$Table", "indexed", "[Z", true), ("PlannedTables$Table", "cells", "[[I", true), ("PlannedTables$Table", "order", "[[I", true)]
def nf_PN : List (String × String × String × Bool) := [("PlannedTables$Plan", "words", "[I", true), ("PlannedTables$Plan", "length", "I", false), ("PlannedTables$Plan", "wrong", "I", false), ("PlannedTables$Plan", "wide", "I", false), ("PlannedTables$Plan", "count", "I", false), ("PlannedTables$Plan", "steps", "[LPlannedTables$Step;", true), ("PlannedTables$Plan", "at", "I", false)]
def nf_SP : List (String × String × String × Bool) := [("PlannedTables$Step", "kind", "I", false), ("PlannedTables$Step", "place", "I", false), ("PlannedTables$Step", "wideBefore", "I", false), ("PlannedTables$Step", "table", "I", false), ("PlannedTables$Step", "column", "I", false), ("PlannedTables$Step", "next", "I", false), ("PlannedTables$Step", "high", "I", false), ("PlannedTables$Step", "tally", "I", false), ("PlannedTables$Step", "over", "Z", false), ("PlannedTables$Step", "kept", "[I", true)]
def nf_OP : List (String × String × String × Bool) := [("PlannedTables$Output", "cells", "[I", true), ("PlannedTables$Output", "used", "I", false), ("PlannedTables$Output", "count", "I", false)]
def nf_RN : List (String × String × String × Bool) := [("PlannedTables$Run", "tables", "LPlannedTables$Tables;", true), ("PlannedTables$Run", "plan", "LPlannedTables$Plan;", true), ("PlannedTables$Run", "output", "LPlannedTables$Output;", true), ("PlannedTables$Run", "fuel", "I", true), ("PlannedTables$Run", "visited", "I", false), ("PlannedTables$Run", "row", "[I", true)]
def nf_MD : List (String × String × String × Bool) := [("PlannedTablesModel", "code", "I", false), ("PlannedTablesModel", "tables", "I", false), ("PlannedTablesModel", "columns", "[I", true), ("PlannedTablesModel", "indexed", "[Z", true), ("PlannedTablesModel", "staged", "[I", true), ("PlannedTablesModel", "rows", "I", false), ("PlannedTablesModel", "of", "[I", true), ("PlannedTablesModel", "cells", "[I", true), ("PlannedTablesModel", "words", "I", false), ("PlannedTablesModel", "plan", "[I", true), ("PlannedTablesModel", "steps", "I", false), ("PlannedTablesModel", "wrong", "I", false), ("PlannedTablesModel", "ops", "[I", true), ("PlannedTablesModel", "at", "[I", true), ("PlannedTablesModel", "wide", "[I", true), ("PlannedTablesModel", "width", "I", false), ("PlannedTablesModel", "fuel", "I", false), ("PlannedTablesModel", "visited", "I", false), ("PlannedTablesModel", "spent", "Z", false), ("PlannedTablesModel", "full", "Z", false), ("PlannedTablesModel", "carried", "I", false), ("PlannedTablesModel", "row", "[I", true), ("PlannedTablesModel", "numbers", "[I", true), ("PlannedTablesModel", "latest", "[I", true), ("PlannedTablesModel", "has", "[Z", true), ("PlannedTablesModel", "lefts", "[I", true), ("PlannedTablesModel", "lastCell", "I", false), ("PlannedTablesModel", "lastKey", "I", false), ("PlannedTablesModel", "begun", "Z", false), ("PlannedTablesModel", "visits", "I", false), ("PlannedTablesModel", "size", "I", false), ("PlannedTablesModel", "output", "[I", true)]
def nm_cl : List vw_C := [("PlannedTables", (fun k => (nf_PT[k]?).getD ("", "", "", false)), 5), ("PlannedTables$Tables", (fun k => (nf_TS[k]?).getD ("", "", "", false)), 2), ("PlannedTables$Table", (fun k => (nf_TB[k]?).getD ("", "", "", false)), 5), ("PlannedTables$Plan", (fun k => (nf_PN[k]?).getD ("", "", "", false)), 7), ("PlannedTables$Step", (fun k => (nf_SP[k]?).getD ("", "", "", false)), 10), ("PlannedTables$Output", (fun k => (nf_OP[k]?).getD ("", "", "", false)), 3), ("PlannedTables$Run", (fun k => (nf_RN[k]?).getD ("", "", "", false)), 6), ("PlannedTablesModel", (fun k => (nf_MD[k]?).getD ("", "", "", false)), 32), ("java/lang/IllegalArgumentException", (fun _ => ("", "", "", false)), 0), ("java/lang/UnsupportedOperationException", (fun _ => ("", "", "", false)), 0), ("java/lang/IndexOutOfBoundsException", (fun _ => ("", "", "", false)), 0), ("java/lang/IllegalStateException", (fun _ => ("", "", "", false)), 0), ("java/util/NoSuchElementException", (fun _ => ("", "", "", false)), 0)]
def nm_tt : List (List Nat) := [[1, 1, 1, 1, 0], [1, 0], [0, 0, 1, 1, 1], [1, 0, 0, 0, 0, 1, 0], [0, 0, 0, 0, 0, 0, 0, 0, 0, 1], [1, 0, 0], [1, 1, 1, 0, 0, 1], [0, 0, 1, 1, 1, 0, 1, 1, 0, 1, 0, 0, 1, 1, 1, 0, 0, 0, 0, 0, 0, 1, 1, 1, 1, 1, 0, 0, 0, 0, 0, 1]]
def nm_tl : List (List FieldType) := [[.object "PlannedTables$Tables", .array .int, .object "PlannedTables$Plan", .object "PlannedTables$Output", .int], [.array (.object "PlannedTables$Table"), .int], [.int, .int, .array .boolean, .array (.array .int), .array (.array .int)], [.array .int, .int, .int, .int, .int, .array (.object "PlannedTables$Step"), .int], [.int, .int, .int, .int, .int, .int, .int, .int, .boolean, .array .int], [.array .int, .int, .int], [.object "PlannedTables$Tables", .object "PlannedTables$Plan", .object "PlannedTables$Output", .int, .int, .array .int], [.int, .int, .array .int, .array .boolean, .array .int, .int, .array .int, .array .int, .int, .array .int, .int, .int, .array .int, .array .int, .array .int, .int, .int, .int, .boolean, .boolean, .int, .array .int, .array .int, .array .int, .array .boolean, .array .int, .int, .int, .boolean, .int, .int, .array .int]]
def nm_fl2 : List (List Bool) := [[true, true, true, true, false], [true, false], [false, false, true, true, true], [true, false, false, false, false, true, false], [false, false, false, false, false, false, false, false, false, true], [true, false, false], [true, true, true, true, false, true], [false, false, true, true, true, false, true, true, false, true, false, false, true, true, true, false, false, false, false, false, false, true, true, true, true, true, false, false, false, false, false, true]]
def nm_N (k : Nat) : Nat := ([5, 2, 5, 7, 10, 3, 6, 32][k]?).getD 0
def nm_t (k j : Nat) : Nat := if k < 100 then (((nm_tt[k]?).getD [])[j]?).getD 0 else if k < 102 then 0 else if k = 102 then 2 else 1
def nm_ty (k j : Nat) : FieldType := (((nm_tl[k]?).getD [])[j]?).getD .int
def nm_fin (k j : Nat) : Bool := (((nm_fl2[k]?).getD [])[j]?).getD false
def nm_nm (k : Nat) : String := (["PlannedTables", "PlannedTables$Tables", "PlannedTables$Table", "PlannedTables$Plan", "PlannedTables$Step", "PlannedTables$Output", "PlannedTables$Run", "PlannedTablesModel", "java/lang/IllegalArgumentException", "java/lang/UnsupportedOperationException", "java/lang/IndexOutOfBoundsException", "java/lang/IllegalStateException", "java/util/NoSuchElementException"][k]?).getD ""
def nm_at : List FieldType := [.int, .boolean, .long, .array .int, .object "PlannedTables$Table", .object "PlannedTables$Step"]
def nm_nw : List (String × Nat × MethodName × String) := [("PlannedTables$Tables", 17, ⟨"PlannedTables$Table", "<init>", "()V"⟩, "PlannedTables"), ("PlannedTables$Plan", 21, ⟨"PlannedTables$Step", "<init>", "()V"⟩, "PlannedTables"), ("PlannedTables", 29, ⟨"PlannedTables$Output", "<init>", "()V"⟩, "PlannedTables")]
def nm_ao : List String := ["PlannedTables$Table", "PlannedTables$Step"]
theorem nm_len : nm_cl.length ≤ 100 := by decide
theorem nm_at0 : nm_at[0]? = some .int := rfl
theorem nm_at1 : nm_at[1]? = some .boolean := rfl
theorem nm_at2 : nm_at[2]? = some .long := rfl
theorem nm_t100 (j : Nat) : nm_t 100 j = 0 := rfl
theorem nm_t101 (j : Nat) : nm_t 101 j = 0 := rfl
theorem nm_t102 (j : Nat) : nm_t 102 j = 2 := rfl
def nm_tb : List Cond := lw_tbl.filter goodWord
theorem nm_good : ∀ x ∈ nm_tb, goodWord x = true := fun x hx => (List.mem_filter.mp hx).2
theorem nm_in {x : Cond} (h : x ∈ tables_1) (hg : goodWord x = true) : x ∈ nm_tb := List.mem_filter.mpr ⟨List.mem_append_right _ h, hg⟩
theorem nm_inp {x : Cond} (h : x ∈ k2_sels lw_privs) (hg : goodWord x = true) : x ∈ nm_tb := List.mem_filter.mpr ⟨List.mem_append_left _ h, hg⟩
abbrev y_PT_init : MethodName := ⟨"PlannedTables", "<init>", "()V"⟩
abbrev b_PT_init : ByteArray := prog_1_method_1_code
abbrev y_TS_init : MethodName := ⟨"PlannedTables$Tables", "<init>", "()V"⟩
abbrev b_TS_init : ByteArray := prog_7_method_1_code
abbrev y_TB_init : MethodName := ⟨"PlannedTables$Table", "<init>", "()V"⟩
abbrev b_TB_init : ByteArray := prog_6_method_1_code
abbrev y_PN_init : MethodName := ⟨"PlannedTables$Plan", "<init>", "()V"⟩
abbrev b_PN_init : ByteArray := prog_3_method_1_code
abbrev y_SP_init : MethodName := ⟨"PlannedTables$Step", "<init>", "()V"⟩
abbrev b_SP_init : ByteArray := prog_5_method_1_code
abbrev y_OP_init : MethodName := ⟨"PlannedTables$Output", "<init>", "()V"⟩
abbrev b_OP_init : ByteArray := prog_2_method_1_code
abbrev y_PT_stage : MethodName := ⟨"PlannedTables", "stage", "(II)Z"⟩
abbrev b_PT_stage : ByteArray := prog_1_method_4_code
abbrev y_PT_rows : MethodName := ⟨"PlannedTables", "rows", "(I)I"⟩
abbrev b_PT_rows : ByteArray := prog_1_method_9_code
abbrev y_TS_has : MethodName := ⟨"PlannedTables$Tables", "has", "(I)Z"⟩
abbrev b_TS_has : ByteArray := prog_7_method_2_code
abbrev y_PT_word : MethodName := ⟨"PlannedTables", "word", "(I)Z"⟩
abbrev b_PT_word : ByteArray := prog_1_method_10_code
abbrev y_PT_clear : MethodName := ⟨"PlannedTables", "clear", "()I"⟩
abbrev b_PT_clear : ByteArray := prog_1_method_11_code
abbrev y_PT_fault : MethodName := ⟨"PlannedTables", "fault", "()I"⟩
abbrev b_PT_fault : ByteArray := prog_1_method_12_code
abbrev y_PN_lookThrough : MethodName := ⟨"PlannedTables$Plan", "lookThrough", "(LPlannedTables$Tables;)V"⟩
abbrev b_PN_lookThrough : ByteArray := prog_3_method_2_code
abbrev y_PN_lookAtSource : MethodName := ⟨"PlannedTables$Plan", "lookAtSource", "(LPlannedTables$Tables;)V"⟩
abbrev b_PN_lookAtSource : ByteArray := prog_3_method_3_code
abbrev y_PN_beginStep : MethodName := ⟨"PlannedTables$Plan", "beginStep", "()LPlannedTables$Step;"⟩
abbrev b_PN_beginStep : ByteArray := prog_3_method_7_code
abbrev y_PN_next : MethodName := ⟨"PlannedTables$Plan", "next", "(II)I"⟩
abbrev b_PN_next : ByteArray := prog_3_method_11_code
abbrev y_PN_nextIndexed : MethodName := ⟨"PlannedTables$Plan", "nextIndexed", "(LPlannedTables$Table;)V"⟩
abbrev b_PN_nextIndexed : ByteArray := prog_3_method_10_code
abbrev y_PN_nextAny : MethodName := ⟨"PlannedTables$Plan", "nextAny", "()V"⟩
abbrev b_PN_nextAny : ByteArray := prog_3_method_9_code
abbrev y_PN_lookAtStep : MethodName := ⟨"PlannedTables$Plan", "lookAtStep", "(LPlannedTables$Tables;)V"⟩
abbrev b_PN_lookAtStep : ByteArray := prog_3_method_4_code
abbrev y_PN_nextColumn : MethodName := ⟨"PlannedTables$Plan", "nextColumn", "()V"⟩
abbrev b_PN_nextColumn : ByteArray := prog_3_method_8_code
abbrev y_PN_lookAtPick : MethodName := ⟨"PlannedTables$Plan", "lookAtPick", "()V"⟩
abbrev b_PN_lookAtPick : ByteArray := prog_3_method_5_code
abbrev y_PN_lookAtJoin : MethodName := ⟨"PlannedTables$Plan", "lookAtJoin", "(LPlannedTables$Tables;)V"⟩
abbrev b_PN_lookAtJoin : ByteArray := prog_3_method_6_code
abbrev y_PT_visits : MethodName := ⟨"PlannedTables", "visits", "()I"⟩
abbrev b_PT_visits : ByteArray := prog_1_method_14_code
abbrev y_PT_size : MethodName := ⟨"PlannedTables", "size", "()I"⟩
abbrev b_PT_size : ByteArray := prog_1_method_15_code
abbrev y_PT_out : MethodName := ⟨"PlannedTables", "out", "(I)I"⟩
abbrev b_PT_out : ByteArray := prog_1_method_16_code
abbrev y_PT_width : MethodName := ⟨"PlannedTables", "width", "()I"⟩
abbrev b_PT_width : ByteArray := prog_1_method_17_code
abbrev y_LW_table : MethodName := ⟨"PlannedTablesLaw", "table", "(LPlannedTables;I[J)I"⟩
abbrev b_LW_table : ByteArray := method_3_code
abbrev y_PT_table : MethodName := ⟨"PlannedTables", "table", "(I)I"⟩
abbrev b_PT_table : ByteArray := prog_1_method_2_code
abbrev y_JD_Throwable_init : MethodName := ⟨"java/lang/Throwable", "<init>", "()V"⟩
abbrev b_JD_Throwable_init : ByteArray := prog_16_method_1_code
abbrev y_JD_IllegalArgumentException_initS : MethodName := ⟨"java/lang/IllegalArgumentException", "<init>", "(Ljava/lang/String;)V"⟩
abbrev b_JD_IllegalArgumentException_initS : ByteArray := prog_11_method_2_code
abbrev y_JD_RuntimeException_initS : MethodName := ⟨"java/lang/RuntimeException", "<init>", "(Ljava/lang/String;)V"⟩
abbrev b_JD_RuntimeException_initS : ByteArray := prog_14_method_2_code
abbrev y_JD_Exception_initS : MethodName := ⟨"java/lang/Exception", "<init>", "(Ljava/lang/String;)V"⟩
abbrev b_JD_Exception_initS : ByteArray := prog_10_method_2_code
abbrev y_JD_Throwable_initS : MethodName := ⟨"java/lang/Throwable", "<init>", "(Ljava/lang/String;)V"⟩
abbrev b_JD_Throwable_initS : ByteArray := prog_16_method_2_code
abbrev y_JD_UnsupportedOperationException_initS : MethodName := ⟨"java/lang/UnsupportedOperationException", "<init>", "(Ljava/lang/String;)V"⟩
abbrev b_JD_UnsupportedOperationException_initS : ByteArray := prog_17_method_2_code
abbrev y_TS_make : MethodName := ⟨"PlannedTables$Tables", "make", "(I)I"⟩
abbrev b_TS_make : ByteArray := prog_7_method_3_code
abbrev y_LW_index : MethodName := ⟨"PlannedTablesLaw", "index", "(LPlannedTables;II[J)I"⟩
abbrev b_LW_index : ByteArray := method_4_code
abbrev y_PT_index : MethodName := ⟨"PlannedTables", "index", "(II)Z"⟩
abbrev b_PT_index : ByteArray := prog_1_method_3_code
abbrev y_TB_hasColumn : MethodName := ⟨"PlannedTables$Table", "hasColumn", "(I)Z"⟩
abbrev b_TB_hasColumn : ByteArray := prog_6_method_2_code
abbrev y_JD_IndexOutOfBoundsException_initS : MethodName := ⟨"java/lang/IndexOutOfBoundsException", "<init>", "(Ljava/lang/String;)V"⟩
abbrev b_JD_IndexOutOfBoundsException_initS : ByteArray := prog_13_method_2_code
abbrev y_LW_insert : MethodName := ⟨"PlannedTablesLaw", "insert", "(LPlannedTables;I[J)I"⟩
abbrev b_LW_insert : ByteArray := method_5_code
abbrev y_PT_insert : MethodName := ⟨"PlannedTables", "insert", "(I)I"⟩
abbrev b_PT_insert : ByteArray := prog_1_method_5_code
abbrev y_TB_slotOf : MethodName := ⟨"PlannedTables$Table", "slotOf", "(I)I"⟩
abbrev b_TB_slotOf : ByteArray := prog_6_method_5_code
abbrev y_TB_placeFrom : MethodName := ⟨"PlannedTables$Table", "placeFrom", "(II)I"⟩
abbrev b_TB_placeFrom : ByteArray := prog_6_method_4_code
abbrev y_TB_cellAt : MethodName := ⟨"PlannedTables$Table", "cellAt", "(II)I"⟩
abbrev b_TB_cellAt : ByteArray := prog_6_method_3_code
abbrev y_JD_IllegalStateException_initS : MethodName := ⟨"java/lang/IllegalStateException", "<init>", "(Ljava/lang/String;)V"⟩
abbrev b_JD_IllegalStateException_initS : ByteArray := prog_12_method_2_code
abbrev y_TS_rowsInAll : MethodName := ⟨"PlannedTables$Tables", "rowsInAll", "()I"⟩
abbrev b_TS_rowsInAll : ByteArray := prog_7_method_4_code
abbrev y_TB_add : MethodName := ⟨"PlannedTables$Table", "add", "([I)V"⟩
abbrev b_TB_add : ByteArray := prog_6_method_6_code
abbrev y_TB_putInOrder : MethodName := ⟨"PlannedTables$Table", "putInOrder", "(II)V"⟩
abbrev b_TB_putInOrder : ByteArray := prog_6_method_7_code
abbrev y_TB_comesBefore : MethodName := ⟨"PlannedTables$Table", "comesBefore", "(III)Z"⟩
abbrev b_TB_comesBefore : ByteArray := prog_6_method_8_code
abbrev y_LW_delete : MethodName := ⟨"PlannedTablesLaw", "delete", "(LPlannedTables;II[J)I"⟩
abbrev b_LW_delete : ByteArray := method_6_code
abbrev y_PT_delete : MethodName := ⟨"PlannedTables", "delete", "(II)I"⟩
abbrev b_PT_delete : ByteArray := prog_1_method_6_code
abbrev y_JD_NoSuchElementException_initS : MethodName := ⟨"java/util/NoSuchElementException", "<init>", "(Ljava/lang/String;)V"⟩
abbrev b_JD_NoSuchElementException_initS : ByteArray := prog_18_method_4_code
abbrev y_TB_remove : MethodName := ⟨"PlannedTables$Table", "remove", "(I)V"⟩
abbrev b_TB_remove : ByteArray := prog_6_method_9_code
abbrev y_TB_removeFromOrder : MethodName := ⟨"PlannedTables$Table", "removeFromOrder", "(III)V"⟩
abbrev b_TB_removeFromOrder : ByteArray := prog_6_method_10_code
abbrev y_LW_cell : MethodName := ⟨"PlannedTablesLaw", "cell", "(LPlannedTables;III[J)I"⟩
abbrev b_LW_cell : ByteArray := method_7_code
abbrev y_PT_cell : MethodName := ⟨"PlannedTables", "cell", "(III)I"⟩
abbrev b_PT_cell : ByteArray := prog_1_method_7_code
abbrev y_LW_keyFrom : MethodName := ⟨"PlannedTablesLaw", "keyFrom", "(LPlannedTables;II[J)I"⟩
abbrev b_LW_keyFrom : ByteArray := method_8_code
abbrev y_PT_keyFrom : MethodName := ⟨"PlannedTables", "keyFrom", "(II)I"⟩
abbrev b_PT_keyFrom : ByteArray := prog_1_method_8_code
abbrev y_LW_run : MethodName := ⟨"PlannedTablesLaw", "run", "(LPlannedTables;I[J)I"⟩
abbrev b_LW_run : ByteArray := method_9_code
abbrev y_PT_run : MethodName := ⟨"PlannedTables", "run", "(I)I"⟩
abbrev b_PT_run : ByteArray := prog_1_method_13_code
abbrev y_OP_empty : MethodName := ⟨"PlannedTables$Output", "empty", "()V"⟩
abbrev b_OP_empty : ByteArray := prog_2_method_2_code
abbrev y_RN_init : MethodName := ⟨"PlannedTables$Run", "<init>", "(LPlannedTables$Tables;LPlannedTables$Plan;LPlannedTables$Output;I)V"⟩
abbrev b_RN_init : ByteArray := prog_4_method_1_code
abbrev y_RN_askForAll : MethodName := ⟨"PlannedTables$Run", "askForAll", "()I"⟩
abbrev b_RN_askForAll : ByteArray := prog_4_method_2_code
abbrev y_RN_begin : MethodName := ⟨"PlannedTables$Run", "begin", "(LPlannedTables$Step;)V"⟩
abbrev b_RN_begin : ByteArray := prog_4_method_3_code
abbrev y_RN_wordOf : MethodName := ⟨"PlannedTables$Run", "wordOf", "(LPlannedTables$Step;I)I"⟩
abbrev b_RN_wordOf : ByteArray := prog_4_method_15_code
abbrev y_RN_beginWalk : MethodName := ⟨"PlannedTables$Run", "beginWalk", "(LPlannedTables$Step;II)V"⟩
abbrev b_RN_beginWalk : ByteArray := prog_4_method_12_code
abbrev y_RN_react : MethodName := ⟨"PlannedTables$Run", "react", "(LPlannedTables$Step;I)I"⟩
abbrev b_RN_react : ByteArray := prog_4_method_4_code
abbrev y_RN_whenAsked : MethodName := ⟨"PlannedTables$Run", "whenAsked", "(LPlannedTables$Step;)I"⟩
abbrev b_RN_whenAsked : ByteArray := prog_4_method_5_code
abbrev y_RN_walkOn : MethodName := ⟨"PlannedTables$Run", "walkOn", "(LPlannedTables$Step;I)I"⟩
abbrev b_RN_walkOn : ByteArray := prog_4_method_13_code
abbrev y_RN_copyCells : MethodName := ⟨"PlannedTables$Run", "copyCells", "([I[II)V"⟩
abbrev b_RN_copyCells : ByteArray := prog_4_method_14_code
abbrev y_TB_copyRow : MethodName := ⟨"PlannedTables$Table", "copyRow", "(II[II)V"⟩
abbrev b_TB_copyRow : ByteArray := prog_6_method_11_code
abbrev y_RN_whenGiven : MethodName := ⟨"PlannedTables$Run", "whenGiven", "(LPlannedTables$Step;)I"⟩
abbrev b_RN_whenGiven : ByteArray := prog_4_method_6_code
abbrev y_RN_cellOf : MethodName := ⟨"PlannedTables$Run", "cellOf", "(LPlannedTables$Step;I)I"⟩
abbrev b_RN_cellOf : ByteArray := prog_4_method_16_code
abbrev y_RN_holds : MethodName := ⟨"PlannedTables$Run", "holds", "(III)Z"⟩
abbrev b_RN_holds : ByteArray := prog_4_method_17_code
abbrev y_RN_pick : MethodName := ⟨"PlannedTables$Run", "pick", "(LPlannedTables$Step;)V"⟩
abbrev b_RN_pick : ByteArray := prog_4_method_11_code
abbrev y_RN_skipOrGive : MethodName := ⟨"PlannedTables$Run", "skipOrGive", "(LPlannedTables$Step;)I"⟩
abbrev b_RN_skipOrGive : ByteArray := prog_4_method_8_code
abbrev y_RN_addToGroup : MethodName := ⟨"PlannedTables$Run", "addToGroup", "(LPlannedTables$Step;I)I"⟩
abbrev b_RN_addToGroup : ByteArray := prog_4_method_9_code
abbrev y_RN_writeGroup : MethodName := ⟨"PlannedTables$Run", "writeGroup", "(LPlannedTables$Step;)V"⟩
abbrev b_RN_writeGroup : ByteArray := prog_4_method_10_code
abbrev y_RN_whenEnded : MethodName := ⟨"PlannedTables$Run", "whenEnded", "(LPlannedTables$Step;)I"⟩
abbrev b_RN_whenEnded : ByteArray := prog_4_method_7_code
abbrev y_OP_add : MethodName := ⟨"PlannedTables$Output", "add", "([II)Z"⟩
abbrev b_OP_add : ByteArray := prog_2_method_3_code
abbrev y_MD_init : MethodName := ⟨"PlannedTablesModel", "<init>", "()V"⟩
abbrev b_MD_init : ByteArray := prog_9_method_1_code
abbrev y_MD_thrown : MethodName := ⟨"PlannedTablesModel", "thrown", "()I"⟩
abbrev b_MD_thrown : ByteArray := prog_9_method_2_code
abbrev y_MD_table : MethodName := ⟨"PlannedTablesModel", "table", "(I)I"⟩
abbrev b_MD_table : ByteArray := prog_9_method_5_code
abbrev y_MD_index : MethodName := ⟨"PlannedTablesModel", "index", "(II)Z"⟩
abbrev b_MD_index : ByteArray := prog_9_method_6_code
abbrev y_MD_isTable : MethodName := ⟨"PlannedTablesModel", "isTable", "(I)Z"⟩
abbrev b_MD_isTable : ByteArray := prog_9_method_3_code
abbrev y_MD_isColumn : MethodName := ⟨"PlannedTablesModel", "isColumn", "(II)Z"⟩
abbrev b_MD_isColumn : ByteArray := prog_9_method_4_code
abbrev y_MD_stage : MethodName := ⟨"PlannedTablesModel", "stage", "(II)Z"⟩
abbrev b_MD_stage : ByteArray := prog_9_method_7_code
abbrev y_MD_insert : MethodName := ⟨"PlannedTablesModel", "insert", "(I)I"⟩
abbrev b_MD_insert : ByteArray := prog_9_method_10_code
abbrev y_MD_rowWith : MethodName := ⟨"PlannedTablesModel", "rowWith", "(II)I"⟩
abbrev b_MD_rowWith : ByteArray := prog_9_method_8_code
abbrev y_MD_rowsOf : MethodName := ⟨"PlannedTablesModel", "rowsOf", "(I)I"⟩
abbrev b_MD_rowsOf : ByteArray := prog_9_method_9_code
abbrev y_MD_delete : MethodName := ⟨"PlannedTablesModel", "delete", "(II)I"⟩
abbrev b_MD_delete : ByteArray := prog_9_method_11_code
abbrev y_MD_cell : MethodName := ⟨"PlannedTablesModel", "cell", "(III)I"⟩
abbrev b_MD_cell : ByteArray := prog_9_method_12_code
abbrev y_MD_keyFrom : MethodName := ⟨"PlannedTablesModel", "keyFrom", "(II)I"⟩
abbrev b_MD_keyFrom : ByteArray := prog_9_method_13_code
abbrev y_MD_rows : MethodName := ⟨"PlannedTablesModel", "rows", "(I)I"⟩
abbrev b_MD_rows : ByteArray := prog_9_method_14_code
abbrev y_MD_word : MethodName := ⟨"PlannedTablesModel", "word", "(I)Z"⟩
abbrev b_MD_word : ByteArray := prog_9_method_15_code
abbrev y_MD_clear : MethodName := ⟨"PlannedTablesModel", "clear", "()I"⟩
abbrev b_MD_clear : ByteArray := prog_9_method_16_code
abbrev y_MD_fault : MethodName := ⟨"PlannedTablesModel", "fault", "()I"⟩
abbrev b_MD_fault : ByteArray := prog_9_method_25_code
abbrev y_MD_readPlan : MethodName := ⟨"PlannedTablesModel", "readPlan", "()V"⟩
abbrev b_MD_readPlan : ByteArray := prog_9_method_24_code
abbrev y_MD_readSource : MethodName := ⟨"PlannedTablesModel", "readSource", "()V"⟩
abbrev b_MD_readSource : ByteArray := prog_9_method_19_code
abbrev y_MD_wordAt : MethodName := ⟨"PlannedTablesModel", "wordAt", "(I)I"⟩
abbrev b_MD_wordAt : ByteArray := prog_9_method_18_code
abbrev y_MD_demand : MethodName := ⟨"PlannedTablesModel", "demand", "(IZ)V"⟩
abbrev b_MD_demand : ByteArray := prog_9_method_17_code
abbrev y_MD_readStep : MethodName := ⟨"PlannedTablesModel", "readStep", "(II)I"⟩
abbrev b_MD_readStep : ByteArray := prog_9_method_23_code
abbrev y_MD_isCell : MethodName := ⟨"PlannedTablesModel", "isCell", "(I)Z"⟩
abbrev b_MD_isCell : ByteArray := prog_9_method_20_code
abbrev y_MD_readCells : MethodName := ⟨"PlannedTablesModel", "readCells", "(I)I"⟩
abbrev b_MD_readCells : ByteArray := prog_9_method_21_code
abbrev y_MD_readJoin : MethodName := ⟨"PlannedTablesModel", "readJoin", "(I)I"⟩
abbrev b_MD_readJoin : ByteArray := prog_9_method_22_code
abbrev y_MD_width : MethodName := ⟨"PlannedTablesModel", "width", "()I"⟩
abbrev b_MD_width : ByteArray := prog_9_method_26_code
abbrev y_MD_run : MethodName := ⟨"PlannedTablesModel", "run", "(I)I"⟩
abbrev b_MD_run : ByteArray := prog_9_method_44_code
abbrev y_MD_ready : MethodName := ⟨"PlannedTablesModel", "ready", "(I)V"⟩
abbrev b_MD_ready : ByteArray := prog_9_method_42_code
abbrev y_MD_go : MethodName := ⟨"PlannedTablesModel", "go", "()V"⟩
abbrev b_MD_go : ByteArray := prog_9_method_43_code
abbrev y_MD_waiting : MethodName := ⟨"PlannedTablesModel", "waiting", "(I)I"⟩
abbrev b_MD_waiting : ByteArray := prog_9_method_38_code
abbrev y_MD_satisfied : MethodName := ⟨"PlannedTablesModel", "satisfied", "(I)I"⟩
abbrev b_MD_satisfied : ByteArray := prog_9_method_39_code
abbrev y_MD_follow : MethodName := ⟨"PlannedTablesModel", "follow", "(I)V"⟩
abbrev b_MD_follow : ByteArray := prog_9_method_40_code
abbrev y_MD_nextOfStep : MethodName := ⟨"PlannedTablesModel", "nextOfStep", "(I)I"⟩
abbrev b_MD_nextOfStep : ByteArray := prog_9_method_29_code
abbrev y_MD_visit : MethodName := ⟨"PlannedTablesModel", "visit", "()Z"⟩
abbrev b_MD_visit : ByteArray := prog_9_method_27_code
abbrev y_MD_load : MethodName := ⟨"PlannedTablesModel", "load", "(III)V"⟩
abbrev b_MD_load : ByteArray := prog_9_method_36_code
abbrev y_MD_push : MethodName := ⟨"PlannedTablesModel", "push", "(I)V"⟩
abbrev b_MD_push : ByteArray := prog_9_method_35_code
abbrev y_MD_goesOn : MethodName := ⟨"PlannedTablesModel", "goesOn", "(I)Z"⟩
abbrev b_MD_goesOn : ByteArray := prog_9_method_34_code
abbrev y_MD_passes : MethodName := ⟨"PlannedTablesModel", "passes", "(III)Z"⟩
abbrev b_MD_passes : ByteArray := prog_9_method_30_code
abbrev y_MD_choose : MethodName := ⟨"PlannedTablesModel", "choose", "(I)V"⟩
abbrev b_MD_choose : ByteArray := prog_9_method_31_code
abbrev y_MD_hold : MethodName := ⟨"PlannedTablesModel", "hold", "(II)V"⟩
abbrev b_MD_hold : ByteArray := prog_9_method_32_code
abbrev y_MD_runEnds : MethodName := ⟨"PlannedTablesModel", "runEnds", "(I)Z"⟩
abbrev b_MD_runEnds : ByteArray := prog_9_method_33_code
abbrev y_MD_close : MethodName := ⟨"PlannedTablesModel", "close", "(I)V"⟩
abbrev b_MD_close : ByteArray := prog_9_method_37_code
abbrev y_MD_begin : MethodName := ⟨"PlannedTablesModel", "begin", "()Z"⟩
abbrev b_MD_begin : ByteArray := prog_9_method_41_code
abbrev y_MD_nextOfSource : MethodName := ⟨"PlannedTablesModel", "nextOfSource", "()I"⟩
abbrev b_MD_nextOfSource : ByteArray := prog_9_method_28_code
abbrev y_MD_visits : MethodName := ⟨"PlannedTablesModel", "visits", "()I"⟩
abbrev b_MD_visits : ByteArray := prog_9_method_45_code
abbrev y_MD_size : MethodName := ⟨"PlannedTablesModel", "size", "()I"⟩
abbrev b_MD_size : ByteArray := prog_9_method_46_code
abbrev y_MD_out : MethodName := ⟨"PlannedTablesModel", "out", "(I)I"⟩
abbrev b_MD_out : ByteArray := prog_9_method_47_code
theorem nw_0 : Cond.initialized "PlannedTablesLaw" ∈ nm_tb := nm_in (List.mem_of_getElem? (i := 0) (by decide +kernel)) (by decide +kernel)
theorem nw_1 : Cond.initialized "PlannedTables" ∈ nm_tb := nm_in (List.mem_of_getElem? (i := 1) (by decide +kernel)) (by decide +kernel)
theorem nw_2 : Cond.initialized "PlannedTables$Tables" ∈ nm_tb := nm_in (List.mem_of_getElem? (i := 2) (by decide +kernel)) (by decide +kernel)
theorem nw_3 : Cond.initialized "PlannedTables$Table" ∈ nm_tb := nm_in (List.mem_of_getElem? (i := 3) (by decide +kernel)) (by decide +kernel)
theorem nw_4 : Cond.initialized "PlannedTables$Plan" ∈ nm_tb := nm_in (List.mem_of_getElem? (i := 4) (by decide +kernel)) (by decide +kernel)
theorem nw_5 : Cond.initialized "PlannedTables$Step" ∈ nm_tb := nm_in (List.mem_of_getElem? (i := 5) (by decide +kernel)) (by decide +kernel)
theorem nw_6 : Cond.initialized "PlannedTables$Output" ∈ nm_tb := nm_in (List.mem_of_getElem? (i := 6) (by decide +kernel)) (by decide +kernel)
theorem nw_7 : Cond.initialized "PlannedTablesModel" ∈ nm_tb := nm_in (List.mem_of_getElem? (i := 7) (by decide +kernel)) (by decide +kernel)
theorem nw_8 : Cond.initialized "java/lang/Throwable" ∈ nm_tb := nm_in (List.mem_of_getElem? (i := 8) (by decide +kernel)) (by decide +kernel)
theorem nw_9 : Cond.initialized "java/lang/Exception" ∈ nm_tb := nm_in (List.mem_of_getElem? (i := 9) (by decide +kernel)) (by decide +kernel)
theorem nw_10 : Cond.initialized "java/lang/RuntimeException" ∈ nm_tb := nm_in (List.mem_of_getElem? (i := 10) (by decide +kernel)) (by decide +kernel)
theorem nw_11 : Cond.initialized "java/lang/IllegalArgumentException" ∈ nm_tb := nm_in (List.mem_of_getElem? (i := 11) (by decide +kernel)) (by decide +kernel)
theorem nw_12 : Cond.initialized "java/lang/UnsupportedOperationException" ∈ nm_tb := nm_in (List.mem_of_getElem? (i := 12) (by decide +kernel)) (by decide +kernel)
theorem nw_13 : Cond.initialized "java/lang/IndexOutOfBoundsException" ∈ nm_tb := nm_in (List.mem_of_getElem? (i := 13) (by decide +kernel)) (by decide +kernel)
theorem nw_14 : Cond.initialized "java/lang/IllegalStateException" ∈ nm_tb := nm_in (List.mem_of_getElem? (i := 14) (by decide +kernel)) (by decide +kernel)
theorem nw_15 : Cond.initialized "java/util/NoSuchElementException" ∈ nm_tb := nm_in (List.mem_of_getElem? (i := 15) (by decide +kernel)) (by decide +kernel)
theorem nw_16 : Cond.initialized "PlannedTables$Run" ∈ nm_tb := nm_in (List.mem_of_getElem? (i := 16) (by decide +kernel)) (by decide +kernel)
theorem nw_17 : Cond.classLink "PlannedTablesLaw" 8 "PlannedTables" ∈ nm_tb := nm_in (List.mem_of_getElem? (i := 17) (by decide +kernel)) (by decide +kernel)
theorem nw_18 : Cond.instantiable "PlannedTables" 5 ∈ nm_tb := nm_in (List.mem_of_getElem? (i := 18) (by decide +kernel)) (by decide +kernel)
theorem nw_19 : Cond.methodLink "PlannedTablesLaw" 44 y_PT_init ∈ nm_tb := nm_in (List.mem_of_getElem? (i := 19) (by decide +kernel)) (by decide +kernel)
theorem nw_20 : Cond.instanceMethod y_PT_init ∈ nm_tb := nm_in (List.mem_of_getElem? (i := 20) (by decide +kernel)) (by decide +kernel)
theorem nw_21 : Cond.code y_PT_init b_PT_init 1 none ∈ nm_tb := nm_in (List.mem_of_getElem? (i := 21) (by decide +kernel)) (by decide +kernel)
theorem nw_22 : Cond.methodLink "PlannedTables" 3 Lib.objectInit ∈ nm_tb := nm_in (List.mem_of_getElem? (i := 22) (by decide +kernel)) (by decide +kernel)
theorem nw_23 : Cond.instanceMethod Lib.objectInit ∈ nm_tb := nm_in (List.mem_of_getElem? (i := 23) (by decide +kernel)) (by decide +kernel)
theorem nw_24 : Cond.code Lib.objectInit ⟨#[0xb1]⟩ 1 none ∈ nm_tb := nm_in (List.mem_of_getElem? (i := 24) (by decide +kernel)) (by decide +kernel)
theorem nw_25 : Cond.classLink "PlannedTables" 9 "PlannedTables$Tables" ∈ nm_tb := nm_in (List.mem_of_getElem? (i := 25) (by decide +kernel)) (by decide +kernel)
theorem nw_26 : Cond.instantiable "PlannedTables$Tables" 2 ∈ nm_tb := nm_in (List.mem_of_getElem? (i := 26) (by decide +kernel)) (by decide +kernel)
theorem nw_27 : Cond.methodLink "PlannedTables" 11 y_TS_init ∈ nm_tb := nm_in (List.mem_of_getElem? (i := 27) (by decide +kernel)) (by decide +kernel)
theorem nw_28 : Cond.instanceMethod y_TS_init ∈ nm_tb := nm_in (List.mem_of_getElem? (i := 28) (by decide +kernel)) (by decide +kernel)
theorem nw_29 : Cond.code y_TS_init b_TS_init 2 none ∈ nm_tb := nm_in (List.mem_of_getElem? (i := 29) (by decide +kernel)) (by decide +kernel)
theorem nw_30 : Cond.methodLink "PlannedTables$Tables" 3 Lib.objectInit ∈ nm_tb := nm_in (List.mem_of_getElem? (i := 30) (by decide +kernel)) (by decide +kernel)
theorem nw_31 : Cond.classLink "PlannedTables$Tables" 9 "PlannedTables$Table" ∈ nm_tb := nm_in (List.mem_of_getElem? (i := 31) (by decide +kernel)) (by decide +kernel)
theorem nw_33 : Cond.instantiable "PlannedTables$Table" 5 ∈ nm_tb := nm_in (List.mem_of_getElem? (i := 33) (by decide +kernel)) (by decide +kernel)
theorem nw_35 : Cond.instanceMethod y_TB_init ∈ nm_tb := nm_in (List.mem_of_getElem? (i := 35) (by decide +kernel)) (by decide +kernel)
theorem nw_36 : Cond.code y_TB_init b_TB_init 1 none ∈ nm_tb := nm_in (List.mem_of_getElem? (i := 36) (by decide +kernel)) (by decide +kernel)
theorem nw_37 : Cond.methodLink "PlannedTables$Table" 3 Lib.objectInit ∈ nm_tb := nm_in (List.mem_of_getElem? (i := 37) (by decide +kernel)) (by decide +kernel)
theorem nw_38 : Cond.classLink "PlannedTables$Table" 15 "[[I" ∈ nm_tb := nm_in (List.mem_of_getElem? (i := 38) (by decide +kernel)) (by decide +kernel)
theorem nw_40 : Cond.fieldLink "PlannedTables$Table" 23 "PlannedTables$Table" "columns" "I" ∈ nm_tb := nm_in (List.mem_of_getElem? (i := 40) (by decide +kernel)) (by decide +kernel)
theorem nw_41 : Cond.fieldLink "PlannedTables$Tables" 22 "PlannedTables$Table" "columns" "I" ∈ nm_tb := nm_in (List.mem_of_getElem? (i := 41) (by decide +kernel)) (by decide +kernel)
theorem nw_42 : Cond.fieldLink "PlannedTables$Plan" 72 "PlannedTables$Table" "columns" "I" ∈ nm_tb := nm_in (List.mem_of_getElem? (i := 42) (by decide +kernel)) (by decide +kernel)
theorem nw_43 : Cond.fieldLink "PlannedTables$Run" 96 "PlannedTables$Table" "count" "I" ∈ nm_tb := nm_in (List.mem_of_getElem? (i := 43) (by decide +kernel)) (by decide +kernel)
theorem nw_44 : Cond.fieldLink "PlannedTables$Table" 27 "PlannedTables$Table" "count" "I" ∈ nm_tb := nm_in (List.mem_of_getElem? (i := 44) (by decide +kernel)) (by decide +kernel)
theorem nw_45 : Cond.fieldLink "PlannedTables$Tables" 29 "PlannedTables$Table" "count" "I" ∈ nm_tb := nm_in (List.mem_of_getElem? (i := 45) (by decide +kernel)) (by decide +kernel)
theorem nw_46 : Cond.fieldLink "PlannedTables" 96 "PlannedTables$Table" "count" "I" ∈ nm_tb := nm_in (List.mem_of_getElem? (i := 46) (by decide +kernel)) (by decide +kernel)
theorem nw_47 : Cond.fieldLink "PlannedTables$Table" 9 "PlannedTables$Table" "indexed" "[Z" ∈ nm_tb := nm_in (List.mem_of_getElem? (i := 47) (by decide +kernel)) (by decide +kernel)
theorem nw_48 : Cond.fieldLink "PlannedTables$Tables" 25 "PlannedTables$Table" "indexed" "[Z" ∈ nm_tb := nm_in (List.mem_of_getElem? (i := 48) (by decide +kernel)) (by decide +kernel)
theorem nw_49 : Cond.fieldLink "PlannedTables" 72 "PlannedTables$Table" "indexed" "[Z" ∈ nm_tb := nm_in (List.mem_of_getElem? (i := 49) (by decide +kernel)) (by decide +kernel)
theorem nw_50 : Cond.fieldLink "PlannedTables$Plan" 94 "PlannedTables$Table" "indexed" "[Z" ∈ nm_tb := nm_in (List.mem_of_getElem? (i := 50) (by decide +kernel)) (by decide +kernel)
theorem nw_51 : Cond.fieldLink "PlannedTables$Table" 17 "PlannedTables$Table" "cells" "[[I" ∈ nm_tb := nm_in (List.mem_of_getElem? (i := 51) (by decide +kernel)) (by decide +kernel)
theorem nw_52 : Cond.fieldLink "PlannedTables" 108 "PlannedTables$Table" "cells" "[[I" ∈ nm_tb := nm_in (List.mem_of_getElem? (i := 52) (by decide +kernel)) (by decide +kernel)
theorem nw_53 : Cond.fieldLink "PlannedTables$Table" 20 "PlannedTables$Table" "order" "[[I" ∈ nm_tb := nm_in (List.mem_of_getElem? (i := 53) (by decide +kernel)) (by decide +kernel)
theorem nw_64 : Cond.superclass "PlannedTables$Table" "java/lang/Object" ∈ nm_tb := nm_in (List.mem_of_getElem? (i := 64) (by decide +kernel)) (by decide +kernel)
theorem nw_65 : Cond.arrayClass .boolean ∈ nm_tb := nm_in (List.mem_of_getElem? (i := 65) (by decide +kernel)) (by decide +kernel)
theorem nw_66 : Cond.arrayClass .int ∈ nm_tb := nm_in (List.mem_of_getElem? (i := 66) (by decide +kernel)) (by decide +kernel)
theorem nw_67 : Cond.fieldLink "PlannedTables$Tables" 11 "PlannedTables$Tables" "all" "[LPlannedTables$Table;" ∈ nm_tb := nm_in (List.mem_of_getElem? (i := 67) (by decide +kernel)) (by decide +kernel)
theorem nw_68 : Cond.fieldLink "PlannedTables" 58 "PlannedTables$Tables" "all" "[LPlannedTables$Table;" ∈ nm_tb := nm_in (List.mem_of_getElem? (i := 68) (by decide +kernel)) (by decide +kernel)
theorem nw_69 : Cond.fieldLink "PlannedTables$Plan" 61 "PlannedTables$Tables" "all" "[LPlannedTables$Table;" ∈ nm_tb := nm_in (List.mem_of_getElem? (i := 69) (by decide +kernel)) (by decide +kernel)
theorem nw_70 : Cond.fieldLink "PlannedTables$Run" 90 "PlannedTables$Tables" "all" "[LPlannedTables$Table;" ∈ nm_tb := nm_in (List.mem_of_getElem? (i := 70) (by decide +kernel)) (by decide +kernel)
theorem nw_71 : Cond.fieldLink "PlannedTables$Tables" 18 "PlannedTables$Tables" "made" "I" ∈ nm_tb := nm_in (List.mem_of_getElem? (i := 71) (by decide +kernel)) (by decide +kernel)
theorem nw_72 : Cond.fieldLink "PlannedTables" 41 "PlannedTables$Tables" "made" "I" ∈ nm_tb := nm_in (List.mem_of_getElem? (i := 72) (by decide +kernel)) (by decide +kernel)
theorem nw_73 : Cond.fieldLink "PlannedTables$Plan" 56 "PlannedTables$Tables" "made" "I" ∈ nm_tb := nm_in (List.mem_of_getElem? (i := 73) (by decide +kernel)) (by decide +kernel)
theorem nw_78 : Cond.superclass "PlannedTables$Tables" "java/lang/Object" ∈ nm_tb := nm_in (List.mem_of_getElem? (i := 78) (by decide +kernel)) (by decide +kernel)
theorem nw_79 : Cond.classLink "PlannedTables" 20 "PlannedTables$Plan" ∈ nm_tb := nm_in (List.mem_of_getElem? (i := 79) (by decide +kernel)) (by decide +kernel)
theorem nw_80 : Cond.instantiable "PlannedTables$Plan" 7 ∈ nm_tb := nm_in (List.mem_of_getElem? (i := 80) (by decide +kernel)) (by decide +kernel)
theorem nw_81 : Cond.methodLink "PlannedTables" 22 y_PN_init ∈ nm_tb := nm_in (List.mem_of_getElem? (i := 81) (by decide +kernel)) (by decide +kernel)
theorem nw_82 : Cond.instanceMethod y_PN_init ∈ nm_tb := nm_in (List.mem_of_getElem? (i := 82) (by decide +kernel)) (by decide +kernel)
theorem nw_83 : Cond.code y_PN_init b_PN_init 2 none ∈ nm_tb := nm_in (List.mem_of_getElem? (i := 83) (by decide +kernel)) (by decide +kernel)
theorem nw_84 : Cond.methodLink "PlannedTables$Plan" 3 Lib.objectInit ∈ nm_tb := nm_in (List.mem_of_getElem? (i := 84) (by decide +kernel)) (by decide +kernel)
theorem nw_85 : Cond.classLink "PlannedTables$Plan" 15 "PlannedTables$Step" ∈ nm_tb := nm_in (List.mem_of_getElem? (i := 85) (by decide +kernel)) (by decide +kernel)
theorem nw_87 : Cond.instantiable "PlannedTables$Step" 10 ∈ nm_tb := nm_in (List.mem_of_getElem? (i := 87) (by decide +kernel)) (by decide +kernel)
theorem nw_89 : Cond.instanceMethod y_SP_init ∈ nm_tb := nm_in (List.mem_of_getElem? (i := 89) (by decide +kernel)) (by decide +kernel)
theorem nw_90 : Cond.code y_SP_init b_SP_init 1 none ∈ nm_tb := nm_in (List.mem_of_getElem? (i := 90) (by decide +kernel)) (by decide +kernel)
theorem nw_91 : Cond.methodLink "PlannedTables$Step" 3 Lib.objectInit ∈ nm_tb := nm_in (List.mem_of_getElem? (i := 91) (by decide +kernel)) (by decide +kernel)
theorem nw_92 : Cond.fieldLink "PlannedTables$Run" 72 "PlannedTables$Step" "kind" "I" ∈ nm_tb := nm_in (List.mem_of_getElem? (i := 92) (by decide +kernel)) (by decide +kernel)
theorem nw_93 : Cond.fieldLink "PlannedTables$Plan" 53 "PlannedTables$Step" "kind" "I" ∈ nm_tb := nm_in (List.mem_of_getElem? (i := 93) (by decide +kernel)) (by decide +kernel)
theorem nw_94 : Cond.fieldLink "PlannedTables$Plan" 87 "PlannedTables$Step" "place" "I" ∈ nm_tb := nm_in (List.mem_of_getElem? (i := 94) (by decide +kernel)) (by decide +kernel)
theorem nw_95 : Cond.fieldLink "PlannedTables$Run" 164 "PlannedTables$Step" "place" "I" ∈ nm_tb := nm_in (List.mem_of_getElem? (i := 95) (by decide +kernel)) (by decide +kernel)
theorem nw_96 : Cond.fieldLink "PlannedTables$Run" 128 "PlannedTables$Step" "wideBefore" "I" ∈ nm_tb := nm_in (List.mem_of_getElem? (i := 96) (by decide +kernel)) (by decide +kernel)
theorem nw_97 : Cond.fieldLink "PlannedTables$Plan" 90 "PlannedTables$Step" "wideBefore" "I" ∈ nm_tb := nm_in (List.mem_of_getElem? (i := 97) (by decide +kernel)) (by decide +kernel)
theorem nw_98 : Cond.fieldLink "PlannedTables$Run" 78 "PlannedTables$Step" "table" "I" ∈ nm_tb := nm_in (List.mem_of_getElem? (i := 98) (by decide +kernel)) (by decide +kernel)
theorem nw_99 : Cond.fieldLink "PlannedTables$Run" 81 "PlannedTables$Step" "column" "I" ∈ nm_tb := nm_in (List.mem_of_getElem? (i := 99) (by decide +kernel)) (by decide +kernel)
theorem nw_100 : Cond.fieldLink "PlannedTables$Run" 99 "PlannedTables$Step" "next" "I" ∈ nm_tb := nm_in (List.mem_of_getElem? (i := 100) (by decide +kernel)) (by decide +kernel)
theorem nw_101 : Cond.fieldLink "PlannedTables$Run" 148 "PlannedTables$Step" "high" "I" ∈ nm_tb := nm_in (List.mem_of_getElem? (i := 101) (by decide +kernel)) (by decide +kernel)
theorem nw_102 : Cond.fieldLink "PlannedTables$Run" 63 "PlannedTables$Step" "tally" "I" ∈ nm_tb := nm_in (List.mem_of_getElem? (i := 102) (by decide +kernel)) (by decide +kernel)
theorem nw_103 : Cond.fieldLink "PlannedTables$Run" 68 "PlannedTables$Step" "over" "Z" ∈ nm_tb := nm_in (List.mem_of_getElem? (i := 103) (by decide +kernel)) (by decide +kernel)
theorem nw_104 : Cond.fieldLink "PlannedTables$Step" 9 "PlannedTables$Step" "kept" "[I" ∈ nm_tb := nm_in (List.mem_of_getElem? (i := 104) (by decide +kernel)) (by decide +kernel)
theorem nw_105 : Cond.fieldLink "PlannedTables$Run" 125 "PlannedTables$Step" "kept" "[I" ∈ nm_tb := nm_in (List.mem_of_getElem? (i := 105) (by decide +kernel)) (by decide +kernel)
theorem nw_126 : Cond.superclass "PlannedTables$Step" "java/lang/Object" ∈ nm_tb := nm_in (List.mem_of_getElem? (i := 126) (by decide +kernel)) (by decide +kernel)
theorem nw_127 : Cond.fieldLink "PlannedTables$Plan" 9 "PlannedTables$Plan" "words" "[I" ∈ nm_tb := nm_in (List.mem_of_getElem? (i := 127) (by decide +kernel)) (by decide +kernel)
theorem nw_128 : Cond.fieldLink "PlannedTables" 124 "PlannedTables$Plan" "words" "[I" ∈ nm_tb := nm_in (List.mem_of_getElem? (i := 128) (by decide +kernel)) (by decide +kernel)
theorem nw_129 : Cond.fieldLink "PlannedTables$Run" 161 "PlannedTables$Plan" "words" "[I" ∈ nm_tb := nm_in (List.mem_of_getElem? (i := 129) (by decide +kernel)) (by decide +kernel)
theorem nw_130 : Cond.fieldLink "PlannedTables$Plan" 39 "PlannedTables$Plan" "length" "I" ∈ nm_tb := nm_in (List.mem_of_getElem? (i := 130) (by decide +kernel)) (by decide +kernel)
theorem nw_131 : Cond.fieldLink "PlannedTables" 121 "PlannedTables$Plan" "length" "I" ∈ nm_tb := nm_in (List.mem_of_getElem? (i := 131) (by decide +kernel)) (by decide +kernel)
theorem nw_132 : Cond.fieldLink "PlannedTables$Plan" 22 "PlannedTables$Plan" "wrong" "I" ∈ nm_tb := nm_in (List.mem_of_getElem? (i := 132) (by decide +kernel)) (by decide +kernel)
theorem nw_133 : Cond.fieldLink "PlannedTables" 131 "PlannedTables$Plan" "wrong" "I" ∈ nm_tb := nm_in (List.mem_of_getElem? (i := 133) (by decide +kernel)) (by decide +kernel)
theorem nw_134 : Cond.fieldLink "PlannedTables$Plan" 26 "PlannedTables$Plan" "wide" "I" ∈ nm_tb := nm_in (List.mem_of_getElem? (i := 134) (by decide +kernel)) (by decide +kernel)
theorem nw_135 : Cond.fieldLink "PlannedTables$Run" 54 "PlannedTables$Plan" "wide" "I" ∈ nm_tb := nm_in (List.mem_of_getElem? (i := 135) (by decide +kernel)) (by decide +kernel)
theorem nw_136 : Cond.fieldLink "PlannedTables" 163 "PlannedTables$Plan" "wide" "I" ∈ nm_tb := nm_in (List.mem_of_getElem? (i := 136) (by decide +kernel)) (by decide +kernel)
theorem nw_137 : Cond.fieldLink "PlannedTables$Run" 31 "PlannedTables$Plan" "count" "I" ∈ nm_tb := nm_in (List.mem_of_getElem? (i := 137) (by decide +kernel)) (by decide +kernel)
theorem nw_138 : Cond.fieldLink "PlannedTables$Plan" 29 "PlannedTables$Plan" "count" "I" ∈ nm_tb := nm_in (List.mem_of_getElem? (i := 138) (by decide +kernel)) (by decide +kernel)
theorem nw_139 : Cond.fieldLink "PlannedTables$Plan" 17 "PlannedTables$Plan" "steps" "[LPlannedTables$Step;" ∈ nm_tb := nm_in (List.mem_of_getElem? (i := 139) (by decide +kernel)) (by decide +kernel)
theorem nw_140 : Cond.fieldLink "PlannedTables$Run" 36 "PlannedTables$Plan" "steps" "[LPlannedTables$Step;" ∈ nm_tb := nm_in (List.mem_of_getElem? (i := 140) (by decide +kernel)) (by decide +kernel)
theorem nw_141 : Cond.fieldLink "PlannedTables$Plan" 32 "PlannedTables$Plan" "at" "I" ∈ nm_tb := nm_in (List.mem_of_getElem? (i := 141) (by decide +kernel)) (by decide +kernel)
theorem nw_156 : Cond.superclass "PlannedTables$Plan" "java/lang/Object" ∈ nm_tb := nm_in (List.mem_of_getElem? (i := 156) (by decide +kernel)) (by decide +kernel)
theorem nw_157 : Cond.classLink "PlannedTables" 27 "PlannedTables$Output" ∈ nm_tb := nm_in (List.mem_of_getElem? (i := 157) (by decide +kernel)) (by decide +kernel)
theorem nw_158 : Cond.instantiable "PlannedTables$Output" 3 ∈ nm_tb := nm_in (List.mem_of_getElem? (i := 158) (by decide +kernel)) (by decide +kernel)
theorem nw_160 : Cond.instanceMethod y_OP_init ∈ nm_tb := nm_in (List.mem_of_getElem? (i := 160) (by decide +kernel)) (by decide +kernel)
theorem nw_161 : Cond.code y_OP_init b_OP_init 1 none ∈ nm_tb := nm_in (List.mem_of_getElem? (i := 161) (by decide +kernel)) (by decide +kernel)
theorem nw_162 : Cond.methodLink "PlannedTables$Output" 3 Lib.objectInit ∈ nm_tb := nm_in (List.mem_of_getElem? (i := 162) (by decide +kernel)) (by decide +kernel)
theorem nw_163 : Cond.fieldLink "PlannedTables$Output" 9 "PlannedTables$Output" "cells" "[I" ∈ nm_tb := nm_in (List.mem_of_getElem? (i := 163) (by decide +kernel)) (by decide +kernel)
theorem nw_164 : Cond.fieldLink "PlannedTables" 161 "PlannedTables$Output" "cells" "[I" ∈ nm_tb := nm_in (List.mem_of_getElem? (i := 164) (by decide +kernel)) (by decide +kernel)
theorem nw_165 : Cond.fieldLink "PlannedTables$Output" 15 "PlannedTables$Output" "used" "I" ∈ nm_tb := nm_in (List.mem_of_getElem? (i := 165) (by decide +kernel)) (by decide +kernel)
theorem nw_166 : Cond.fieldLink "PlannedTables" 158 "PlannedTables$Output" "used" "I" ∈ nm_tb := nm_in (List.mem_of_getElem? (i := 166) (by decide +kernel)) (by decide +kernel)
theorem nw_167 : Cond.fieldLink "PlannedTables$Output" 19 "PlannedTables$Output" "count" "I" ∈ nm_tb := nm_in (List.mem_of_getElem? (i := 167) (by decide +kernel)) (by decide +kernel)
theorem nw_168 : Cond.fieldLink "PlannedTables" 157 "PlannedTables$Output" "count" "I" ∈ nm_tb := nm_in (List.mem_of_getElem? (i := 168) (by decide +kernel)) (by decide +kernel)
theorem nw_175 : Cond.superclass "PlannedTables$Output" "java/lang/Object" ∈ nm_tb := nm_in (List.mem_of_getElem? (i := 175) (by decide +kernel)) (by decide +kernel)
theorem nw_176 : Cond.fieldLink "PlannedTables" 12 "PlannedTables" "tables" "LPlannedTables$Tables;" ∈ nm_tb := nm_in (List.mem_of_getElem? (i := 176) (by decide +kernel)) (by decide +kernel)
theorem nw_177 : Cond.fieldLink "PlannedTables" 16 "PlannedTables" "staged" "[I" ∈ nm_tb := nm_in (List.mem_of_getElem? (i := 177) (by decide +kernel)) (by decide +kernel)
theorem nw_178 : Cond.fieldLink "PlannedTables" 23 "PlannedTables" "plan" "LPlannedTables$Plan;" ∈ nm_tb := nm_in (List.mem_of_getElem? (i := 178) (by decide +kernel)) (by decide +kernel)
theorem nw_179 : Cond.fieldLink "PlannedTables" 30 "PlannedTables" "output" "LPlannedTables$Output;" ∈ nm_tb := nm_in (List.mem_of_getElem? (i := 179) (by decide +kernel)) (by decide +kernel)
theorem nw_180 : Cond.fieldLink "PlannedTables" 154 "PlannedTables" "latestVisits" "I" ∈ nm_tb := nm_in (List.mem_of_getElem? (i := 180) (by decide +kernel)) (by decide +kernel)
theorem nw_191 : Cond.superclass "PlannedTables" "java/lang/Object" ∈ nm_tb := nm_in (List.mem_of_getElem? (i := 191) (by decide +kernel)) (by decide +kernel)
theorem nw_192 : Cond.methodLink "PlannedTablesLaw" 62 y_PT_stage ∈ nm_tb := nm_in (List.mem_of_getElem? (i := 192) (by decide +kernel)) (by decide +kernel)
theorem nw_193 : Cond.instanceMethod y_PT_stage ∈ nm_tb := nm_in (List.mem_of_getElem? (i := 193) (by decide +kernel)) (by decide +kernel)
theorem nw_194 : Cond.selects "PlannedTables" y_PT_stage y_PT_stage ∈ nm_tb := nm_in (List.mem_of_getElem? (i := 194) (by decide +kernel)) (by decide +kernel)
theorem nw_195 : Cond.code y_PT_stage b_PT_stage 3 (some .boolean) ∈ nm_tb := nm_in (List.mem_of_getElem? (i := 195) (by decide +kernel)) (by decide +kernel)
theorem nw_196 : Cond.methodLink "PlannedTablesLaw" 79 y_PT_rows ∈ nm_tb := nm_in (List.mem_of_getElem? (i := 196) (by decide +kernel)) (by decide +kernel)
theorem nw_197 : Cond.instanceMethod y_PT_rows ∈ nm_tb := nm_in (List.mem_of_getElem? (i := 197) (by decide +kernel)) (by decide +kernel)
theorem nw_198 : Cond.selects "PlannedTables" y_PT_rows y_PT_rows ∈ nm_tb := nm_in (List.mem_of_getElem? (i := 198) (by decide +kernel)) (by decide +kernel)
theorem nw_199 : Cond.code y_PT_rows b_PT_rows 2 (some .int) ∈ nm_tb := nm_in (List.mem_of_getElem? (i := 199) (by decide +kernel)) (by decide +kernel)
theorem nw_200 : Cond.methodLink "PlannedTables" 54 y_TS_has ∈ nm_tb := nm_in (List.mem_of_getElem? (i := 200) (by decide +kernel)) (by decide +kernel)
theorem nw_201 : Cond.instanceMethod y_TS_has ∈ nm_tb := nm_in (List.mem_of_getElem? (i := 201) (by decide +kernel)) (by decide +kernel)
theorem nw_202 : Cond.selects "PlannedTables$Tables" y_TS_has y_TS_has ∈ nm_tb := nm_in (List.mem_of_getElem? (i := 202) (by decide +kernel)) (by decide +kernel)
theorem nw_203 : Cond.code y_TS_has b_TS_has 2 (some .boolean) ∈ nm_tb := nm_in (List.mem_of_getElem? (i := 203) (by decide +kernel)) (by decide +kernel)
theorem nw_204 : Cond.methodLink "PlannedTablesLaw" 83 y_PT_word ∈ nm_tb := nm_in (List.mem_of_getElem? (i := 204) (by decide +kernel)) (by decide +kernel)
theorem nw_205 : Cond.instanceMethod y_PT_word ∈ nm_tb := nm_in (List.mem_of_getElem? (i := 205) (by decide +kernel)) (by decide +kernel)
theorem nw_206 : Cond.selects "PlannedTables" y_PT_word y_PT_word ∈ nm_tb := nm_in (List.mem_of_getElem? (i := 206) (by decide +kernel)) (by decide +kernel)
theorem nw_207 : Cond.code y_PT_word b_PT_word 2 (some .boolean) ∈ nm_tb := nm_in (List.mem_of_getElem? (i := 207) (by decide +kernel)) (by decide +kernel)
theorem nw_208 : Cond.methodLink "PlannedTablesLaw" 88 y_PT_clear ∈ nm_tb := nm_in (List.mem_of_getElem? (i := 208) (by decide +kernel)) (by decide +kernel)
theorem nw_209 : Cond.instanceMethod y_PT_clear ∈ nm_tb := nm_in (List.mem_of_getElem? (i := 209) (by decide +kernel)) (by decide +kernel)
theorem nw_210 : Cond.selects "PlannedTables" y_PT_clear y_PT_clear ∈ nm_tb := nm_in (List.mem_of_getElem? (i := 210) (by decide +kernel)) (by decide +kernel)
theorem nw_211 : Cond.code y_PT_clear b_PT_clear 2 (some .int) ∈ nm_tb := nm_in (List.mem_of_getElem? (i := 211) (by decide +kernel)) (by decide +kernel)
theorem nw_212 : Cond.methodLink "PlannedTablesLaw" 92 y_PT_fault ∈ nm_tb := nm_in (List.mem_of_getElem? (i := 212) (by decide +kernel)) (by decide +kernel)
theorem nw_213 : Cond.instanceMethod y_PT_fault ∈ nm_tb := nm_in (List.mem_of_getElem? (i := 213) (by decide +kernel)) (by decide +kernel)
theorem nw_214 : Cond.selects "PlannedTables" y_PT_fault y_PT_fault ∈ nm_tb := nm_in (List.mem_of_getElem? (i := 214) (by decide +kernel)) (by decide +kernel)
theorem nw_215 : Cond.code y_PT_fault b_PT_fault 1 (some .int) ∈ nm_tb := nm_in (List.mem_of_getElem? (i := 215) (by decide +kernel)) (by decide +kernel)
theorem nw_216 : Cond.methodLink "PlannedTables" 127 y_PN_lookThrough ∈ nm_tb := nm_in (List.mem_of_getElem? (i := 216) (by decide +kernel)) (by decide +kernel)
theorem nw_217 : Cond.instanceMethod y_PN_lookThrough ∈ nm_tb := nm_in (List.mem_of_getElem? (i := 217) (by decide +kernel)) (by decide +kernel)
theorem nw_218 : Cond.selects "PlannedTables$Plan" y_PN_lookThrough y_PN_lookThrough ∈ nm_tb := nm_in (List.mem_of_getElem? (i := 218) (by decide +kernel)) (by decide +kernel)
theorem nw_219 : Cond.code y_PN_lookThrough b_PN_lookThrough 3 none ∈ nm_tb := nm_in (List.mem_of_getElem? (i := 219) (by decide +kernel)) (by decide +kernel)
theorem nw_220 : Cond.methodLink "PlannedTables$Plan" 35 y_PN_lookAtSource ∈ nm_tb := nm_in (List.mem_of_getElem? (i := 220) (by decide +kernel)) (by decide +kernel)
theorem nw_222 : Cond.instanceMethod y_PN_lookAtSource ∈ nm_tb := nm_in (List.mem_of_getElem? (i := 222) (by decide +kernel)) (by decide +kernel)
theorem nw_223 : Cond.code y_PN_lookAtSource b_PN_lookAtSource 4 none ∈ nm_tb := nm_in (List.mem_of_getElem? (i := 223) (by decide +kernel)) (by decide +kernel)
theorem nw_224 : Cond.methodLink "PlannedTables$Plan" 45 y_PN_beginStep ∈ nm_tb := nm_in (List.mem_of_getElem? (i := 224) (by decide +kernel)) (by decide +kernel)
theorem nw_226 : Cond.instanceMethod y_PN_beginStep ∈ nm_tb := nm_in (List.mem_of_getElem? (i := 226) (by decide +kernel)) (by decide +kernel)
theorem nw_227 : Cond.code y_PN_beginStep b_PN_beginStep 2 (some (.object "PlannedTables$Step")) ∈ nm_tb := nm_in (List.mem_of_getElem? (i := 227) (by decide +kernel)) (by decide +kernel)
theorem nw_228 : Cond.methodLink "PlannedTables$Plan" 49 y_PN_next ∈ nm_tb := nm_in (List.mem_of_getElem? (i := 228) (by decide +kernel)) (by decide +kernel)
theorem nw_230 : Cond.instanceMethod y_PN_next ∈ nm_tb := nm_in (List.mem_of_getElem? (i := 230) (by decide +kernel)) (by decide +kernel)
theorem nw_231 : Cond.code y_PN_next b_PN_next 3 (some .int) ∈ nm_tb := nm_in (List.mem_of_getElem? (i := 231) (by decide +kernel)) (by decide +kernel)
theorem nw_232 : Cond.methodLink "PlannedTables$Plan" 65 y_PN_nextIndexed ∈ nm_tb := nm_in (List.mem_of_getElem? (i := 232) (by decide +kernel)) (by decide +kernel)
theorem nw_234 : Cond.instanceMethod y_PN_nextIndexed ∈ nm_tb := nm_in (List.mem_of_getElem? (i := 234) (by decide +kernel)) (by decide +kernel)
theorem nw_235 : Cond.code y_PN_nextIndexed b_PN_nextIndexed 3 none ∈ nm_tb := nm_in (List.mem_of_getElem? (i := 235) (by decide +kernel)) (by decide +kernel)
theorem nw_236 : Cond.methodLink "PlannedTables$Plan" 69 y_PN_nextAny ∈ nm_tb := nm_in (List.mem_of_getElem? (i := 236) (by decide +kernel)) (by decide +kernel)
theorem nw_238 : Cond.instanceMethod y_PN_nextAny ∈ nm_tb := nm_in (List.mem_of_getElem? (i := 238) (by decide +kernel)) (by decide +kernel)
theorem nw_239 : Cond.code y_PN_nextAny b_PN_nextAny 1 none ∈ nm_tb := nm_in (List.mem_of_getElem? (i := 239) (by decide +kernel)) (by decide +kernel)
theorem nw_240 : Cond.constant "PlannedTables$Plan" 93 (-2147483648) ∈ nm_tb := nm_in (List.mem_of_getElem? (i := 240) (by decide +kernel)) (by decide +kernel)
theorem nw_241 : Cond.constant "PlannedTables$Plan" 86 2147483647 ∈ nm_tb := nm_in (List.mem_of_getElem? (i := 241) (by decide +kernel)) (by decide +kernel)
theorem nw_242 : Cond.methodLink "PlannedTables$Plan" 42 y_PN_lookAtStep ∈ nm_tb := nm_in (List.mem_of_getElem? (i := 242) (by decide +kernel)) (by decide +kernel)
theorem nw_244 : Cond.instanceMethod y_PN_lookAtStep ∈ nm_tb := nm_in (List.mem_of_getElem? (i := 244) (by decide +kernel)) (by decide +kernel)
theorem nw_245 : Cond.code y_PN_lookAtStep b_PN_lookAtStep 3 none ∈ nm_tb := nm_in (List.mem_of_getElem? (i := 245) (by decide +kernel)) (by decide +kernel)
theorem nw_246 : Cond.methodLink "PlannedTables$Plan" 77 y_PN_nextColumn ∈ nm_tb := nm_in (List.mem_of_getElem? (i := 246) (by decide +kernel)) (by decide +kernel)
theorem nw_248 : Cond.instanceMethod y_PN_nextColumn ∈ nm_tb := nm_in (List.mem_of_getElem? (i := 248) (by decide +kernel)) (by decide +kernel)
theorem nw_249 : Cond.code y_PN_nextColumn b_PN_nextColumn 1 none ∈ nm_tb := nm_in (List.mem_of_getElem? (i := 249) (by decide +kernel)) (by decide +kernel)
theorem nw_250 : Cond.methodLink "PlannedTables$Plan" 80 y_PN_lookAtPick ∈ nm_tb := nm_in (List.mem_of_getElem? (i := 250) (by decide +kernel)) (by decide +kernel)
theorem nw_252 : Cond.instanceMethod y_PN_lookAtPick ∈ nm_tb := nm_in (List.mem_of_getElem? (i := 252) (by decide +kernel)) (by decide +kernel)
theorem nw_253 : Cond.code y_PN_lookAtPick b_PN_lookAtPick 3 none ∈ nm_tb := nm_in (List.mem_of_getElem? (i := 253) (by decide +kernel)) (by decide +kernel)
theorem nw_254 : Cond.methodLink "PlannedTables$Plan" 83 y_PN_lookAtJoin ∈ nm_tb := nm_in (List.mem_of_getElem? (i := 254) (by decide +kernel)) (by decide +kernel)
theorem nw_256 : Cond.instanceMethod y_PN_lookAtJoin ∈ nm_tb := nm_in (List.mem_of_getElem? (i := 256) (by decide +kernel)) (by decide +kernel)
theorem nw_257 : Cond.code y_PN_lookAtJoin b_PN_lookAtJoin 4 none ∈ nm_tb := nm_in (List.mem_of_getElem? (i := 257) (by decide +kernel)) (by decide +kernel)
theorem nw_258 : Cond.methodLink "PlannedTablesLaw" 99 y_PT_visits ∈ nm_tb := nm_in (List.mem_of_getElem? (i := 258) (by decide +kernel)) (by decide +kernel)
theorem nw_259 : Cond.instanceMethod y_PT_visits ∈ nm_tb := nm_in (List.mem_of_getElem? (i := 259) (by decide +kernel)) (by decide +kernel)
theorem nw_260 : Cond.selects "PlannedTables" y_PT_visits y_PT_visits ∈ nm_tb := nm_in (List.mem_of_getElem? (i := 260) (by decide +kernel)) (by decide +kernel)
theorem nw_261 : Cond.code y_PT_visits b_PT_visits 1 (some .int) ∈ nm_tb := nm_in (List.mem_of_getElem? (i := 261) (by decide +kernel)) (by decide +kernel)
theorem nw_262 : Cond.methodLink "PlannedTablesLaw" 103 y_PT_size ∈ nm_tb := nm_in (List.mem_of_getElem? (i := 262) (by decide +kernel)) (by decide +kernel)
theorem nw_263 : Cond.instanceMethod y_PT_size ∈ nm_tb := nm_in (List.mem_of_getElem? (i := 263) (by decide +kernel)) (by decide +kernel)
theorem nw_264 : Cond.selects "PlannedTables" y_PT_size y_PT_size ∈ nm_tb := nm_in (List.mem_of_getElem? (i := 264) (by decide +kernel)) (by decide +kernel)
theorem nw_265 : Cond.code y_PT_size b_PT_size 1 (some .int) ∈ nm_tb := nm_in (List.mem_of_getElem? (i := 265) (by decide +kernel)) (by decide +kernel)
theorem nw_266 : Cond.methodLink "PlannedTablesLaw" 107 y_PT_out ∈ nm_tb := nm_in (List.mem_of_getElem? (i := 266) (by decide +kernel)) (by decide +kernel)
theorem nw_267 : Cond.instanceMethod y_PT_out ∈ nm_tb := nm_in (List.mem_of_getElem? (i := 267) (by decide +kernel)) (by decide +kernel)
theorem nw_268 : Cond.selects "PlannedTables" y_PT_out y_PT_out ∈ nm_tb := nm_in (List.mem_of_getElem? (i := 268) (by decide +kernel)) (by decide +kernel)
theorem nw_269 : Cond.code y_PT_out b_PT_out 2 (some .int) ∈ nm_tb := nm_in (List.mem_of_getElem? (i := 269) (by decide +kernel)) (by decide +kernel)
theorem nw_270 : Cond.methodLink "PlannedTablesLaw" 111 y_PT_width ∈ nm_tb := nm_in (List.mem_of_getElem? (i := 270) (by decide +kernel)) (by decide +kernel)
theorem nw_271 : Cond.instanceMethod y_PT_width ∈ nm_tb := nm_in (List.mem_of_getElem? (i := 271) (by decide +kernel)) (by decide +kernel)
theorem nw_272 : Cond.selects "PlannedTables" y_PT_width y_PT_width ∈ nm_tb := nm_in (List.mem_of_getElem? (i := 272) (by decide +kernel)) (by decide +kernel)
theorem nw_273 : Cond.code y_PT_width b_PT_width 1 (some .int) ∈ nm_tb := nm_in (List.mem_of_getElem? (i := 273) (by decide +kernel)) (by decide +kernel)
theorem nw_274 : Cond.methodLink "PlannedTablesLaw" 48 y_LW_table ∈ nm_tb := nm_in (List.mem_of_getElem? (i := 274) (by decide +kernel)) (by decide +kernel)
theorem nw_275 : Cond.static y_LW_table ∈ nm_tb := nm_in (List.mem_of_getElem? (i := 275) (by decide +kernel)) (by decide +kernel)
theorem nw_276 : Cond.codeWith y_LW_table b_LW_table 4 (some .int) [(0, 9, 12, 13), (0, 9, 15, 15)] ∈ nm_tb := nm_in (List.mem_of_getElem? (i := 276) (by decide +kernel)) (by decide +kernel)
theorem nw_277 : Cond.classLink "PlannedTablesLaw" 13 "java/lang/IllegalArgumentException" ∈ nm_tb := nm_in (List.mem_of_getElem? (i := 277) (by decide +kernel)) (by decide +kernel)
theorem nw_278 : Cond.classLink "PlannedTablesLaw" 15 "java/lang/UnsupportedOperationException" ∈ nm_tb := nm_in (List.mem_of_getElem? (i := 278) (by decide +kernel)) (by decide +kernel)
theorem nw_279 : Cond.methodLink "PlannedTablesLaw" 7 y_PT_table ∈ nm_tb := nm_in (List.mem_of_getElem? (i := 279) (by decide +kernel)) (by decide +kernel)
theorem nw_280 : Cond.instanceMethod y_PT_table ∈ nm_tb := nm_in (List.mem_of_getElem? (i := 280) (by decide +kernel)) (by decide +kernel)
theorem nw_281 : Cond.selects "PlannedTables" y_PT_table y_PT_table ∈ nm_tb := nm_in (List.mem_of_getElem? (i := 281) (by decide +kernel)) (by decide +kernel)
theorem nw_282 : Cond.code y_PT_table b_PT_table 2 (some .int) ∈ nm_tb := nm_in (List.mem_of_getElem? (i := 282) (by decide +kernel)) (by decide +kernel)
theorem nw_283 : Cond.classLink "PlannedTables" 34 "java/lang/IllegalArgumentException" ∈ nm_tb := nm_in (List.mem_of_getElem? (i := 283) (by decide +kernel)) (by decide +kernel)
theorem nw_284 : Cond.instantiable "java/lang/IllegalArgumentException" 6 ∈ nm_tb := nm_in (List.mem_of_getElem? (i := 284) (by decide +kernel)) (by decide +kernel)
theorem nw_292 : Cond.selects "java/lang/IllegalArgumentException" ⟨"java/lang/Throwable", "fillInStackTrace", "(I)Ljava/lang/Throwable;"⟩ ⟨"java/lang/Throwable", "fillInStackTrace", "(I)Ljava/lang/Throwable;"⟩ ∈ nm_tb := nm_in (List.mem_of_getElem? (i := 292) (by decide +kernel)) (by decide +kernel)
theorem nw_293 : Cond.selects "java/lang/IllegalArgumentException" ⟨"java/lang/Throwable", "fillInStackTrace", "()Ljava/lang/Throwable;"⟩ ⟨"java/lang/Throwable", "fillInStackTrace", "()Ljava/lang/Throwable;"⟩ ∈ nm_tb := nm_in (List.mem_of_getElem? (i := 293) (by decide +kernel)) (by decide +kernel)
theorem nw_304 : Cond.fieldLink "java/lang/Throwable" 198 "java/lang/Throwable" "backtrace" "Ljava/lang/Object;" ∈ nm_tb := nm_in (List.mem_of_getElem? (i := 304) (by decide +kernel)) (by decide +kernel)
theorem nw_305 : Cond.superclass "java/lang/Throwable" "java/lang/Object" ∈ nm_tb := nm_in (List.mem_of_getElem? (i := 305) (by decide +kernel)) (by decide +kernel)
theorem nw_306 : Cond.instanceMethod y_JD_Throwable_init ∈ nm_tb := nm_in (List.mem_of_getElem? (i := 306) (by decide +kernel)) (by decide +kernel)
theorem nw_307 : Cond.code y_JD_Throwable_init b_JD_Throwable_init 1 none ∈ nm_tb := nm_in (List.mem_of_getElem? (i := 307) (by decide +kernel)) (by decide +kernel)
theorem nw_308 : Cond.methodLink "java/lang/Throwable" 1 Lib.objectInit ∈ nm_tb := nm_in (List.mem_of_getElem? (i := 308) (by decide +kernel)) (by decide +kernel)
theorem nw_309 : Cond.fieldLink "java/lang/Throwable" 13 "java/lang/Throwable" "UNASSIGNED_STACK" "[Ljava/lang/StackTraceElement;" ∈ nm_tb := nm_in (List.mem_of_getElem? (i := 309) (by decide +kernel)) (by decide +kernel)
theorem nw_311 : Cond.fieldLink "java/lang/Throwable" 20 "java/lang/Throwable" "SUPPRESSED_SENTINEL" "Ljava/util/List;" ∈ nm_tb := nm_in (List.mem_of_getElem? (i := 311) (by decide +kernel)) (by decide +kernel)
theorem nw_313 : Cond.methodLink "java/lang/Throwable" 27 ⟨"java/lang/Throwable", "fillInStackTrace", "()Ljava/lang/Throwable;"⟩ ∈ nm_tb := nm_in (List.mem_of_getElem? (i := 313) (by decide +kernel)) (by decide +kernel)
theorem nw_314 : Cond.instanceMethod ⟨"java/lang/Throwable", "fillInStackTrace", "()Ljava/lang/Throwable;"⟩ ∈ nm_tb := nm_in (List.mem_of_getElem? (i := 314) (by decide +kernel)) (by decide +kernel)
theorem nw_316 : Cond.selects "java/lang/IllegalStateException" ⟨"java/lang/Throwable", "fillInStackTrace", "()Ljava/lang/Throwable;"⟩ ⟨"java/lang/Throwable", "fillInStackTrace", "()Ljava/lang/Throwable;"⟩ ∈ nm_tb := nm_in (List.mem_of_getElem? (i := 316) (by decide +kernel)) (by decide +kernel)
theorem nw_317 : Cond.selects "java/lang/IndexOutOfBoundsException" ⟨"java/lang/Throwable", "fillInStackTrace", "()Ljava/lang/Throwable;"⟩ ⟨"java/lang/Throwable", "fillInStackTrace", "()Ljava/lang/Throwable;"⟩ ∈ nm_tb := nm_in (List.mem_of_getElem? (i := 317) (by decide +kernel)) (by decide +kernel)
theorem nw_318 : Cond.selects "java/lang/UnsupportedOperationException" ⟨"java/lang/Throwable", "fillInStackTrace", "()Ljava/lang/Throwable;"⟩ ⟨"java/lang/Throwable", "fillInStackTrace", "()Ljava/lang/Throwable;"⟩ ∈ nm_tb := nm_in (List.mem_of_getElem? (i := 318) (by decide +kernel)) (by decide +kernel)
theorem nw_319 : Cond.selects "java/util/NoSuchElementException" ⟨"java/lang/Throwable", "fillInStackTrace", "()Ljava/lang/Throwable;"⟩ ⟨"java/lang/Throwable", "fillInStackTrace", "()Ljava/lang/Throwable;"⟩ ∈ nm_tb := nm_in (List.mem_of_getElem? (i := 319) (by decide +kernel)) (by decide +kernel)
theorem nw_321 : Cond.methodLink "java/lang/Throwable" 202 ⟨"java/lang/Throwable", "fillInStackTrace", "(I)Ljava/lang/Throwable;"⟩ ∈ nm_tb := nm_in (List.mem_of_getElem? (i := 321) (by decide +kernel)) (by decide +kernel)
theorem nw_323 : Cond.instanceMethod ⟨"java/lang/Throwable", "fillInStackTrace", "(I)Ljava/lang/Throwable;"⟩ ∈ nm_tb := nm_in (List.mem_of_getElem? (i := 323) (by decide +kernel)) (by decide +kernel)
theorem nw_324 : Cond.instantiable "java/lang/Throwable" 6 ∈ nm_tb := nm_in (List.mem_of_getElem? (i := 324) (by decide +kernel)) (by decide +kernel)
theorem nw_327 : Cond.methodLink "PlannedTables" 38 y_JD_IllegalArgumentException_initS ∈ nm_tb := nm_in (List.mem_of_getElem? (i := 327) (by decide +kernel)) (by decide +kernel)
theorem nw_328 : Cond.instanceMethod y_JD_IllegalArgumentException_initS ∈ nm_tb := nm_in (List.mem_of_getElem? (i := 328) (by decide +kernel)) (by decide +kernel)
theorem nw_329 : Cond.code y_JD_IllegalArgumentException_initS b_JD_IllegalArgumentException_initS 2 none ∈ nm_tb := nm_in (List.mem_of_getElem? (i := 329) (by decide +kernel)) (by decide +kernel)
theorem nw_330 : Cond.methodLink "java/lang/IllegalArgumentException" 7 y_JD_RuntimeException_initS ∈ nm_tb := nm_in (List.mem_of_getElem? (i := 330) (by decide +kernel)) (by decide +kernel)
theorem nw_331 : Cond.instanceMethod y_JD_RuntimeException_initS ∈ nm_tb := nm_in (List.mem_of_getElem? (i := 331) (by decide +kernel)) (by decide +kernel)
theorem nw_332 : Cond.code y_JD_RuntimeException_initS b_JD_RuntimeException_initS 2 none ∈ nm_tb := nm_in (List.mem_of_getElem? (i := 332) (by decide +kernel)) (by decide +kernel)
theorem nw_333 : Cond.methodLink "java/lang/RuntimeException" 7 y_JD_Exception_initS ∈ nm_tb := nm_in (List.mem_of_getElem? (i := 333) (by decide +kernel)) (by decide +kernel)
theorem nw_334 : Cond.instanceMethod y_JD_Exception_initS ∈ nm_tb := nm_in (List.mem_of_getElem? (i := 334) (by decide +kernel)) (by decide +kernel)
theorem nw_335 : Cond.code y_JD_Exception_initS b_JD_Exception_initS 2 none ∈ nm_tb := nm_in (List.mem_of_getElem? (i := 335) (by decide +kernel)) (by decide +kernel)
theorem nw_336 : Cond.methodLink "java/lang/Exception" 7 y_JD_Throwable_initS ∈ nm_tb := nm_in (List.mem_of_getElem? (i := 336) (by decide +kernel)) (by decide +kernel)
theorem nw_337 : Cond.instanceMethod y_JD_Throwable_initS ∈ nm_tb := nm_in (List.mem_of_getElem? (i := 337) (by decide +kernel)) (by decide +kernel)
theorem nw_338 : Cond.code y_JD_Throwable_initS b_JD_Throwable_initS 2 none ∈ nm_tb := nm_in (List.mem_of_getElem? (i := 338) (by decide +kernel)) (by decide +kernel)
theorem nw_339 : Cond.fieldLink "java/lang/Throwable" 198 "java/lang/Throwable" "backtrace" "Ljava/lang/Object;" ∈ nm_tb := nm_in (List.mem_of_getElem? (i := 339) (by decide +kernel)) (by decide +kernel)
theorem nw_340 : Cond.fieldLink "java/lang/Throwable" 31 "java/lang/Throwable" "detailMessage" "Ljava/lang/String;" ∈ nm_tb := nm_in (List.mem_of_getElem? (i := 340) (by decide +kernel)) (by decide +kernel)
theorem nw_341 : Cond.fieldLink "java/lang/Throwable" 7 "java/lang/Throwable" "cause" "Ljava/lang/Throwable;" ∈ nm_tb := nm_in (List.mem_of_getElem? (i := 341) (by decide +kernel)) (by decide +kernel)
theorem nw_342 : Cond.fieldLink "java/lang/Throwable" 17 "java/lang/Throwable" "stackTrace" "[Ljava/lang/StackTraceElement;" ∈ nm_tb := nm_in (List.mem_of_getElem? (i := 342) (by decide +kernel)) (by decide +kernel)
theorem nw_343 : Cond.fieldLink "java/lang/Throwable" 24 "java/lang/Throwable" "suppressedExceptions" "Ljava/util/List;" ∈ nm_tb := nm_in (List.mem_of_getElem? (i := 343) (by decide +kernel)) (by decide +kernel)
theorem nw_351 : Cond.superclass "java/lang/IllegalArgumentException" "java/lang/RuntimeException" ∈ nm_tb := nm_in (List.mem_of_getElem? (i := 351) (by decide +kernel)) (by decide +kernel)
theorem nw_352 : Cond.arrayClass .byte ∈ nm_tb := nm_in (List.mem_of_getElem? (i := 352) (by decide +kernel)) (by decide +kernel)
theorem nw_353 : Cond.classLink "PlannedTables" 45 "java/lang/UnsupportedOperationException" ∈ nm_tb := nm_in (List.mem_of_getElem? (i := 353) (by decide +kernel)) (by decide +kernel)
theorem nw_354 : Cond.instantiable "java/lang/UnsupportedOperationException" 6 ∈ nm_tb := nm_in (List.mem_of_getElem? (i := 354) (by decide +kernel)) (by decide +kernel)
theorem nw_356 : Cond.selects "java/lang/UnsupportedOperationException" ⟨"java/lang/Throwable", "fillInStackTrace", "(I)Ljava/lang/Throwable;"⟩ ⟨"java/lang/Throwable", "fillInStackTrace", "(I)Ljava/lang/Throwable;"⟩ ∈ nm_tb := nm_in (List.mem_of_getElem? (i := 356) (by decide +kernel)) (by decide +kernel)
theorem nw_363 : Cond.methodLink "PlannedTables" 49 y_JD_UnsupportedOperationException_initS ∈ nm_tb := nm_in (List.mem_of_getElem? (i := 363) (by decide +kernel)) (by decide +kernel)
theorem nw_364 : Cond.instanceMethod y_JD_UnsupportedOperationException_initS ∈ nm_tb := nm_in (List.mem_of_getElem? (i := 364) (by decide +kernel)) (by decide +kernel)
theorem nw_365 : Cond.code y_JD_UnsupportedOperationException_initS b_JD_UnsupportedOperationException_initS 2 none ∈ nm_tb := nm_in (List.mem_of_getElem? (i := 365) (by decide +kernel)) (by decide +kernel)
theorem nw_366 : Cond.methodLink "java/lang/UnsupportedOperationException" 7 y_JD_RuntimeException_initS ∈ nm_tb := nm_in (List.mem_of_getElem? (i := 366) (by decide +kernel)) (by decide +kernel)
theorem nw_368 : Cond.superclass "java/lang/UnsupportedOperationException" "java/lang/RuntimeException" ∈ nm_tb := nm_in (List.mem_of_getElem? (i := 368) (by decide +kernel)) (by decide +kernel)
theorem nw_369 : Cond.methodLink "PlannedTables" 50 y_TS_make ∈ nm_tb := nm_in (List.mem_of_getElem? (i := 369) (by decide +kernel)) (by decide +kernel)
theorem nw_370 : Cond.instanceMethod y_TS_make ∈ nm_tb := nm_in (List.mem_of_getElem? (i := 370) (by decide +kernel)) (by decide +kernel)
theorem nw_371 : Cond.selects "PlannedTables$Tables" y_TS_make y_TS_make ∈ nm_tb := nm_in (List.mem_of_getElem? (i := 371) (by decide +kernel)) (by decide +kernel)
theorem nw_372 : Cond.code y_TS_make b_TS_make 3 (some .int) ∈ nm_tb := nm_in (List.mem_of_getElem? (i := 372) (by decide +kernel)) (by decide +kernel)
theorem nw_373 : Cond.methodLink "PlannedTablesLaw" 58 y_LW_index ∈ nm_tb := nm_in (List.mem_of_getElem? (i := 373) (by decide +kernel)) (by decide +kernel)
theorem nw_374 : Cond.static y_LW_index ∈ nm_tb := nm_in (List.mem_of_getElem? (i := 374) (by decide +kernel)) (by decide +kernel)
theorem nw_375 : Cond.codeWith y_LW_index b_LW_index 5 (some .int) [(0, 17, 20, 21)] ∈ nm_tb := nm_in (List.mem_of_getElem? (i := 375) (by decide +kernel)) (by decide +kernel)
theorem nw_376 : Cond.classLink "PlannedTablesLaw" 21 "java/lang/IndexOutOfBoundsException" ∈ nm_tb := nm_in (List.mem_of_getElem? (i := 376) (by decide +kernel)) (by decide +kernel)
theorem nw_377 : Cond.methodLink "PlannedTablesLaw" 17 y_PT_index ∈ nm_tb := nm_in (List.mem_of_getElem? (i := 377) (by decide +kernel)) (by decide +kernel)
theorem nw_378 : Cond.instanceMethod y_PT_index ∈ nm_tb := nm_in (List.mem_of_getElem? (i := 378) (by decide +kernel)) (by decide +kernel)
theorem nw_379 : Cond.selects "PlannedTables" y_PT_index y_PT_index ∈ nm_tb := nm_in (List.mem_of_getElem? (i := 379) (by decide +kernel)) (by decide +kernel)
theorem nw_380 : Cond.code y_PT_index b_PT_index 4 (some .boolean) ∈ nm_tb := nm_in (List.mem_of_getElem? (i := 380) (by decide +kernel)) (by decide +kernel)
theorem nw_381 : Cond.methodLink "PlannedTables" 62 y_TB_hasColumn ∈ nm_tb := nm_in (List.mem_of_getElem? (i := 381) (by decide +kernel)) (by decide +kernel)
theorem nw_382 : Cond.instanceMethod y_TB_hasColumn ∈ nm_tb := nm_in (List.mem_of_getElem? (i := 382) (by decide +kernel)) (by decide +kernel)
theorem nw_383 : Cond.selects "PlannedTables$Table" y_TB_hasColumn y_TB_hasColumn ∈ nm_tb := nm_in (List.mem_of_getElem? (i := 383) (by decide +kernel)) (by decide +kernel)
theorem nw_384 : Cond.code y_TB_hasColumn b_TB_hasColumn 2 (some .boolean) ∈ nm_tb := nm_in (List.mem_of_getElem? (i := 384) (by decide +kernel)) (by decide +kernel)
theorem nw_385 : Cond.classLink "PlannedTables" 67 "java/lang/IndexOutOfBoundsException" ∈ nm_tb := nm_in (List.mem_of_getElem? (i := 385) (by decide +kernel)) (by decide +kernel)
theorem nw_386 : Cond.instantiable "java/lang/IndexOutOfBoundsException" 6 ∈ nm_tb := nm_in (List.mem_of_getElem? (i := 386) (by decide +kernel)) (by decide +kernel)
theorem nw_388 : Cond.selects "java/lang/IndexOutOfBoundsException" ⟨"java/lang/Throwable", "fillInStackTrace", "(I)Ljava/lang/Throwable;"⟩ ⟨"java/lang/Throwable", "fillInStackTrace", "(I)Ljava/lang/Throwable;"⟩ ∈ nm_tb := nm_in (List.mem_of_getElem? (i := 388) (by decide +kernel)) (by decide +kernel)
theorem nw_395 : Cond.methodLink "PlannedTables" 71 y_JD_IndexOutOfBoundsException_initS ∈ nm_tb := nm_in (List.mem_of_getElem? (i := 395) (by decide +kernel)) (by decide +kernel)
theorem nw_396 : Cond.instanceMethod y_JD_IndexOutOfBoundsException_initS ∈ nm_tb := nm_in (List.mem_of_getElem? (i := 396) (by decide +kernel)) (by decide +kernel)
theorem nw_397 : Cond.code y_JD_IndexOutOfBoundsException_initS b_JD_IndexOutOfBoundsException_initS 2 none ∈ nm_tb := nm_in (List.mem_of_getElem? (i := 397) (by decide +kernel)) (by decide +kernel)
theorem nw_398 : Cond.methodLink "java/lang/IndexOutOfBoundsException" 7 y_JD_RuntimeException_initS ∈ nm_tb := nm_in (List.mem_of_getElem? (i := 398) (by decide +kernel)) (by decide +kernel)
theorem nw_400 : Cond.superclass "java/lang/IndexOutOfBoundsException" "java/lang/RuntimeException" ∈ nm_tb := nm_in (List.mem_of_getElem? (i := 400) (by decide +kernel)) (by decide +kernel)
theorem nw_401 : Cond.methodLink "PlannedTablesLaw" 66 y_LW_insert ∈ nm_tb := nm_in (List.mem_of_getElem? (i := 401) (by decide +kernel)) (by decide +kernel)
theorem nw_402 : Cond.static y_LW_insert ∈ nm_tb := nm_in (List.mem_of_getElem? (i := 402) (by decide +kernel)) (by decide +kernel)
theorem nw_403 : Cond.codeWith y_LW_insert b_LW_insert 4 (some .int) [(0, 9, 12, 21), (0, 9, 15, 26), (0, 9, 18, 15)] ∈ nm_tb := nm_in (List.mem_of_getElem? (i := 403) (by decide +kernel)) (by decide +kernel)
theorem nw_404 : Cond.classLink "PlannedTablesLaw" 26 "java/lang/IllegalStateException" ∈ nm_tb := nm_in (List.mem_of_getElem? (i := 404) (by decide +kernel)) (by decide +kernel)
theorem nw_405 : Cond.methodLink "PlannedTablesLaw" 23 y_PT_insert ∈ nm_tb := nm_in (List.mem_of_getElem? (i := 405) (by decide +kernel)) (by decide +kernel)
theorem nw_406 : Cond.instanceMethod y_PT_insert ∈ nm_tb := nm_in (List.mem_of_getElem? (i := 406) (by decide +kernel)) (by decide +kernel)
theorem nw_407 : Cond.selects "PlannedTables" y_PT_insert y_PT_insert ∈ nm_tb := nm_in (List.mem_of_getElem? (i := 407) (by decide +kernel)) (by decide +kernel)
theorem nw_408 : Cond.code y_PT_insert b_PT_insert 2 (some .int) ∈ nm_tb := nm_in (List.mem_of_getElem? (i := 408) (by decide +kernel)) (by decide +kernel)
theorem nw_410 : Cond.methodLink "PlannedTables" 78 y_TB_slotOf ∈ nm_tb := nm_in (List.mem_of_getElem? (i := 410) (by decide +kernel)) (by decide +kernel)
theorem nw_411 : Cond.instanceMethod y_TB_slotOf ∈ nm_tb := nm_in (List.mem_of_getElem? (i := 411) (by decide +kernel)) (by decide +kernel)
theorem nw_412 : Cond.selects "PlannedTables$Table" y_TB_slotOf y_TB_slotOf ∈ nm_tb := nm_in (List.mem_of_getElem? (i := 412) (by decide +kernel)) (by decide +kernel)
theorem nw_413 : Cond.code y_TB_slotOf b_TB_slotOf 3 (some .int) ∈ nm_tb := nm_in (List.mem_of_getElem? (i := 413) (by decide +kernel)) (by decide +kernel)
theorem nw_414 : Cond.methodLink "PlannedTables$Table" 34 y_TB_placeFrom ∈ nm_tb := nm_in (List.mem_of_getElem? (i := 414) (by decide +kernel)) (by decide +kernel)
theorem nw_415 : Cond.instanceMethod y_TB_placeFrom ∈ nm_tb := nm_in (List.mem_of_getElem? (i := 415) (by decide +kernel)) (by decide +kernel)
theorem nw_416 : Cond.selects "PlannedTables$Table" y_TB_placeFrom y_TB_placeFrom ∈ nm_tb := nm_in (List.mem_of_getElem? (i := 416) (by decide +kernel)) (by decide +kernel)
theorem nw_417 : Cond.code y_TB_placeFrom b_TB_placeFrom 5 (some .int) ∈ nm_tb := nm_in (List.mem_of_getElem? (i := 417) (by decide +kernel)) (by decide +kernel)
theorem nw_418 : Cond.methodLink "PlannedTables$Table" 30 y_TB_cellAt ∈ nm_tb := nm_in (List.mem_of_getElem? (i := 418) (by decide +kernel)) (by decide +kernel)
theorem nw_419 : Cond.instanceMethod y_TB_cellAt ∈ nm_tb := nm_in (List.mem_of_getElem? (i := 419) (by decide +kernel)) (by decide +kernel)
theorem nw_420 : Cond.selects "PlannedTables$Table" y_TB_cellAt y_TB_cellAt ∈ nm_tb := nm_in (List.mem_of_getElem? (i := 420) (by decide +kernel)) (by decide +kernel)
theorem nw_421 : Cond.code y_TB_cellAt b_TB_cellAt 3 (some .int) ∈ nm_tb := nm_in (List.mem_of_getElem? (i := 421) (by decide +kernel)) (by decide +kernel)
theorem nw_422 : Cond.classLink "PlannedTables" 81 "java/lang/IllegalStateException" ∈ nm_tb := nm_in (List.mem_of_getElem? (i := 422) (by decide +kernel)) (by decide +kernel)
theorem nw_423 : Cond.instantiable "java/lang/IllegalStateException" 6 ∈ nm_tb := nm_in (List.mem_of_getElem? (i := 423) (by decide +kernel)) (by decide +kernel)
theorem nw_425 : Cond.selects "java/lang/IllegalStateException" ⟨"java/lang/Throwable", "fillInStackTrace", "(I)Ljava/lang/Throwable;"⟩ ⟨"java/lang/Throwable", "fillInStackTrace", "(I)Ljava/lang/Throwable;"⟩ ∈ nm_tb := nm_in (List.mem_of_getElem? (i := 425) (by decide +kernel)) (by decide +kernel)
theorem nw_432 : Cond.methodLink "PlannedTables" 85 y_JD_IllegalStateException_initS ∈ nm_tb := nm_in (List.mem_of_getElem? (i := 432) (by decide +kernel)) (by decide +kernel)
theorem nw_433 : Cond.instanceMethod y_JD_IllegalStateException_initS ∈ nm_tb := nm_in (List.mem_of_getElem? (i := 433) (by decide +kernel)) (by decide +kernel)
theorem nw_434 : Cond.code y_JD_IllegalStateException_initS b_JD_IllegalStateException_initS 2 none ∈ nm_tb := nm_in (List.mem_of_getElem? (i := 434) (by decide +kernel)) (by decide +kernel)
theorem nw_435 : Cond.methodLink "java/lang/IllegalStateException" 7 y_JD_RuntimeException_initS ∈ nm_tb := nm_in (List.mem_of_getElem? (i := 435) (by decide +kernel)) (by decide +kernel)
theorem nw_437 : Cond.superclass "java/lang/IllegalStateException" "java/lang/RuntimeException" ∈ nm_tb := nm_in (List.mem_of_getElem? (i := 437) (by decide +kernel)) (by decide +kernel)
theorem nw_438 : Cond.methodLink "PlannedTables" 86 y_TS_rowsInAll ∈ nm_tb := nm_in (List.mem_of_getElem? (i := 438) (by decide +kernel)) (by decide +kernel)
theorem nw_439 : Cond.instanceMethod y_TS_rowsInAll ∈ nm_tb := nm_in (List.mem_of_getElem? (i := 439) (by decide +kernel)) (by decide +kernel)
theorem nw_440 : Cond.selects "PlannedTables$Tables" y_TS_rowsInAll y_TS_rowsInAll ∈ nm_tb := nm_in (List.mem_of_getElem? (i := 440) (by decide +kernel)) (by decide +kernel)
theorem nw_441 : Cond.code y_TS_rowsInAll b_TS_rowsInAll 3 (some .int) ∈ nm_tb := nm_in (List.mem_of_getElem? (i := 441) (by decide +kernel)) (by decide +kernel)
theorem nw_443 : Cond.methodLink "PlannedTables" 92 y_TB_add ∈ nm_tb := nm_in (List.mem_of_getElem? (i := 443) (by decide +kernel)) (by decide +kernel)
theorem nw_444 : Cond.instanceMethod y_TB_add ∈ nm_tb := nm_in (List.mem_of_getElem? (i := 444) (by decide +kernel)) (by decide +kernel)
theorem nw_445 : Cond.selects "PlannedTables$Table" y_TB_add y_TB_add ∈ nm_tb := nm_in (List.mem_of_getElem? (i := 445) (by decide +kernel)) (by decide +kernel)
theorem nw_446 : Cond.code y_TB_add b_TB_add 3 none ∈ nm_tb := nm_in (List.mem_of_getElem? (i := 446) (by decide +kernel)) (by decide +kernel)
theorem nw_447 : Cond.methodLink "PlannedTables$Table" 37 y_TB_putInOrder ∈ nm_tb := nm_in (List.mem_of_getElem? (i := 447) (by decide +kernel)) (by decide +kernel)
theorem nw_449 : Cond.instanceMethod y_TB_putInOrder ∈ nm_tb := nm_in (List.mem_of_getElem? (i := 449) (by decide +kernel)) (by decide +kernel)
theorem nw_450 : Cond.code y_TB_putInOrder b_TB_putInOrder 5 none ∈ nm_tb := nm_in (List.mem_of_getElem? (i := 450) (by decide +kernel)) (by decide +kernel)
theorem nw_451 : Cond.methodLink "PlannedTables$Table" 41 y_TB_comesBefore ∈ nm_tb := nm_in (List.mem_of_getElem? (i := 451) (by decide +kernel)) (by decide +kernel)
theorem nw_453 : Cond.instanceMethod y_TB_comesBefore ∈ nm_tb := nm_in (List.mem_of_getElem? (i := 453) (by decide +kernel)) (by decide +kernel)
theorem nw_454 : Cond.code y_TB_comesBefore b_TB_comesBefore 6 (some .boolean) ∈ nm_tb := nm_in (List.mem_of_getElem? (i := 454) (by decide +kernel)) (by decide +kernel)
theorem nw_455 : Cond.methodLink "PlannedTablesLaw" 69 y_LW_delete ∈ nm_tb := nm_in (List.mem_of_getElem? (i := 455) (by decide +kernel)) (by decide +kernel)
theorem nw_456 : Cond.static y_LW_delete ∈ nm_tb := nm_in (List.mem_of_getElem? (i := 456) (by decide +kernel)) (by decide +kernel)
theorem nw_457 : Cond.codeWith y_LW_delete b_LW_delete 5 (some .int) [(0, 10, 13, 21), (0, 10, 17, 32)] ∈ nm_tb := nm_in (List.mem_of_getElem? (i := 457) (by decide +kernel)) (by decide +kernel)
theorem nw_458 : Cond.classLink "PlannedTablesLaw" 32 "java/util/NoSuchElementException" ∈ nm_tb := nm_in (List.mem_of_getElem? (i := 458) (by decide +kernel)) (by decide +kernel)
theorem nw_459 : Cond.methodLink "PlannedTablesLaw" 28 y_PT_delete ∈ nm_tb := nm_in (List.mem_of_getElem? (i := 459) (by decide +kernel)) (by decide +kernel)
theorem nw_460 : Cond.instanceMethod y_PT_delete ∈ nm_tb := nm_in (List.mem_of_getElem? (i := 460) (by decide +kernel)) (by decide +kernel)
theorem nw_461 : Cond.selects "PlannedTables" y_PT_delete y_PT_delete ∈ nm_tb := nm_in (List.mem_of_getElem? (i := 461) (by decide +kernel)) (by decide +kernel)
theorem nw_462 : Cond.code y_PT_delete b_PT_delete 4 (some .int) ∈ nm_tb := nm_in (List.mem_of_getElem? (i := 462) (by decide +kernel)) (by decide +kernel)
theorem nw_463 : Cond.classLink "PlannedTables" 99 "java/util/NoSuchElementException" ∈ nm_tb := nm_in (List.mem_of_getElem? (i := 463) (by decide +kernel)) (by decide +kernel)
theorem nw_464 : Cond.instantiable "java/util/NoSuchElementException" 6 ∈ nm_tb := nm_in (List.mem_of_getElem? (i := 464) (by decide +kernel)) (by decide +kernel)
theorem nw_466 : Cond.selects "java/util/NoSuchElementException" ⟨"java/lang/Throwable", "fillInStackTrace", "(I)Ljava/lang/Throwable;"⟩ ⟨"java/lang/Throwable", "fillInStackTrace", "(I)Ljava/lang/Throwable;"⟩ ∈ nm_tb := nm_in (List.mem_of_getElem? (i := 466) (by decide +kernel)) (by decide +kernel)
theorem nw_473 : Cond.methodLink "PlannedTables" 103 y_JD_NoSuchElementException_initS ∈ nm_tb := nm_in (List.mem_of_getElem? (i := 473) (by decide +kernel)) (by decide +kernel)
theorem nw_474 : Cond.instanceMethod y_JD_NoSuchElementException_initS ∈ nm_tb := nm_in (List.mem_of_getElem? (i := 474) (by decide +kernel)) (by decide +kernel)
theorem nw_475 : Cond.code y_JD_NoSuchElementException_initS b_JD_NoSuchElementException_initS 2 none ∈ nm_tb := nm_in (List.mem_of_getElem? (i := 475) (by decide +kernel)) (by decide +kernel)
theorem nw_476 : Cond.methodLink "java/util/NoSuchElementException" 13 y_JD_RuntimeException_initS ∈ nm_tb := nm_in (List.mem_of_getElem? (i := 476) (by decide +kernel)) (by decide +kernel)
theorem nw_478 : Cond.superclass "java/util/NoSuchElementException" "java/lang/RuntimeException" ∈ nm_tb := nm_in (List.mem_of_getElem? (i := 478) (by decide +kernel)) (by decide +kernel)
theorem nw_479 : Cond.methodLink "PlannedTables" 104 y_TB_remove ∈ nm_tb := nm_in (List.mem_of_getElem? (i := 479) (by decide +kernel)) (by decide +kernel)
theorem nw_480 : Cond.instanceMethod y_TB_remove ∈ nm_tb := nm_in (List.mem_of_getElem? (i := 480) (by decide +kernel)) (by decide +kernel)
theorem nw_481 : Cond.selects "PlannedTables$Table" y_TB_remove y_TB_remove ∈ nm_tb := nm_in (List.mem_of_getElem? (i := 481) (by decide +kernel)) (by decide +kernel)
theorem nw_482 : Cond.code y_TB_remove b_TB_remove 4 none ∈ nm_tb := nm_in (List.mem_of_getElem? (i := 482) (by decide +kernel)) (by decide +kernel)
theorem nw_483 : Cond.methodLink "PlannedTables$Table" 45 y_TB_removeFromOrder ∈ nm_tb := nm_in (List.mem_of_getElem? (i := 483) (by decide +kernel)) (by decide +kernel)
theorem nw_485 : Cond.instanceMethod y_TB_removeFromOrder ∈ nm_tb := nm_in (List.mem_of_getElem? (i := 485) (by decide +kernel)) (by decide +kernel)
theorem nw_486 : Cond.code y_TB_removeFromOrder b_TB_removeFromOrder 8 none ∈ nm_tb := nm_in (List.mem_of_getElem? (i := 486) (by decide +kernel)) (by decide +kernel)
theorem nw_487 : Cond.methodLink "PlannedTablesLaw" 72 y_LW_cell ∈ nm_tb := nm_in (List.mem_of_getElem? (i := 487) (by decide +kernel)) (by decide +kernel)
theorem nw_488 : Cond.static y_LW_cell ∈ nm_tb := nm_in (List.mem_of_getElem? (i := 488) (by decide +kernel)) (by decide +kernel)
theorem nw_489 : Cond.codeWith y_LW_cell b_LW_cell 6 (some .int) [(0, 12, 15, 21), (0, 12, 19, 32)] ∈ nm_tb := nm_in (List.mem_of_getElem? (i := 489) (by decide +kernel)) (by decide +kernel)
theorem nw_490 : Cond.methodLink "PlannedTablesLaw" 34 y_PT_cell ∈ nm_tb := nm_in (List.mem_of_getElem? (i := 490) (by decide +kernel)) (by decide +kernel)
theorem nw_491 : Cond.instanceMethod y_PT_cell ∈ nm_tb := nm_in (List.mem_of_getElem? (i := 491) (by decide +kernel)) (by decide +kernel)
theorem nw_492 : Cond.selects "PlannedTables" y_PT_cell y_PT_cell ∈ nm_tb := nm_in (List.mem_of_getElem? (i := 492) (by decide +kernel)) (by decide +kernel)
theorem nw_493 : Cond.code y_PT_cell b_PT_cell 5 (some .int) ∈ nm_tb := nm_in (List.mem_of_getElem? (i := 493) (by decide +kernel)) (by decide +kernel)
theorem nw_494 : Cond.methodLink "PlannedTablesLaw" 76 y_LW_keyFrom ∈ nm_tb := nm_in (List.mem_of_getElem? (i := 494) (by decide +kernel)) (by decide +kernel)
theorem nw_495 : Cond.static y_LW_keyFrom ∈ nm_tb := nm_in (List.mem_of_getElem? (i := 495) (by decide +kernel)) (by decide +kernel)
theorem nw_496 : Cond.codeWith y_LW_keyFrom b_LW_keyFrom 5 (some .int) [(0, 10, 13, 21), (0, 10, 17, 32)] ∈ nm_tb := nm_in (List.mem_of_getElem? (i := 496) (by decide +kernel)) (by decide +kernel)
theorem nw_497 : Cond.methodLink "PlannedTablesLaw" 38 y_PT_keyFrom ∈ nm_tb := nm_in (List.mem_of_getElem? (i := 497) (by decide +kernel)) (by decide +kernel)
theorem nw_498 : Cond.instanceMethod y_PT_keyFrom ∈ nm_tb := nm_in (List.mem_of_getElem? (i := 498) (by decide +kernel)) (by decide +kernel)
theorem nw_499 : Cond.selects "PlannedTables" y_PT_keyFrom y_PT_keyFrom ∈ nm_tb := nm_in (List.mem_of_getElem? (i := 499) (by decide +kernel)) (by decide +kernel)
theorem nw_500 : Cond.code y_PT_keyFrom b_PT_keyFrom 4 (some .int) ∈ nm_tb := nm_in (List.mem_of_getElem? (i := 500) (by decide +kernel)) (by decide +kernel)
theorem nw_501 : Cond.methodLink "PlannedTables" 112 y_TB_placeFrom ∈ nm_tb := nm_in (List.mem_of_getElem? (i := 501) (by decide +kernel)) (by decide +kernel)
theorem nw_503 : Cond.methodLink "PlannedTables" 118 y_TB_cellAt ∈ nm_tb := nm_in (List.mem_of_getElem? (i := 503) (by decide +kernel)) (by decide +kernel)
theorem nw_504 : Cond.methodLink "PlannedTablesLaw" 96 y_LW_run ∈ nm_tb := nm_in (List.mem_of_getElem? (i := 504) (by decide +kernel)) (by decide +kernel)
theorem nw_505 : Cond.static y_LW_run ∈ nm_tb := nm_in (List.mem_of_getElem? (i := 505) (by decide +kernel)) (by decide +kernel)
theorem nw_506 : Cond.codeWith y_LW_run b_LW_run 4 (some .int) [(0, 9, 12, 13), (0, 9, 15, 26), (0, 9, 18, 15)] ∈ nm_tb := nm_in (List.mem_of_getElem? (i := 506) (by decide +kernel)) (by decide +kernel)
theorem nw_507 : Cond.methodLink "PlannedTablesLaw" 41 y_PT_run ∈ nm_tb := nm_in (List.mem_of_getElem? (i := 507) (by decide +kernel)) (by decide +kernel)
theorem nw_508 : Cond.instanceMethod y_PT_run ∈ nm_tb := nm_in (List.mem_of_getElem? (i := 508) (by decide +kernel)) (by decide +kernel)
theorem nw_509 : Cond.selects "PlannedTables" y_PT_run y_PT_run ∈ nm_tb := nm_in (List.mem_of_getElem? (i := 509) (by decide +kernel)) (by decide +kernel)
theorem nw_510 : Cond.code y_PT_run b_PT_run 4 (some .int) ∈ nm_tb := nm_in (List.mem_of_getElem? (i := 510) (by decide +kernel)) (by decide +kernel)
theorem nw_511 : Cond.methodLink "PlannedTables" 134 y_OP_empty ∈ nm_tb := nm_in (List.mem_of_getElem? (i := 511) (by decide +kernel)) (by decide +kernel)
theorem nw_512 : Cond.instanceMethod y_OP_empty ∈ nm_tb := nm_in (List.mem_of_getElem? (i := 512) (by decide +kernel)) (by decide +kernel)
theorem nw_513 : Cond.selects "PlannedTables$Output" y_OP_empty y_OP_empty ∈ nm_tb := nm_in (List.mem_of_getElem? (i := 513) (by decide +kernel)) (by decide +kernel)
theorem nw_514 : Cond.code y_OP_empty b_OP_empty 1 none ∈ nm_tb := nm_in (List.mem_of_getElem? (i := 514) (by decide +kernel)) (by decide +kernel)
theorem nw_516 : Cond.classLink "PlannedTables" 139 "PlannedTables$Run" ∈ nm_tb := nm_in (List.mem_of_getElem? (i := 516) (by decide +kernel)) (by decide +kernel)
theorem nw_517 : Cond.instantiable "PlannedTables$Run" 6 ∈ nm_tb := nm_in (List.mem_of_getElem? (i := 517) (by decide +kernel)) (by decide +kernel)
theorem nw_518 : Cond.methodLink "PlannedTables" 141 y_RN_init ∈ nm_tb := nm_in (List.mem_of_getElem? (i := 518) (by decide +kernel)) (by decide +kernel)
theorem nw_519 : Cond.instanceMethod y_RN_init ∈ nm_tb := nm_in (List.mem_of_getElem? (i := 519) (by decide +kernel)) (by decide +kernel)
theorem nw_520 : Cond.code y_RN_init b_RN_init 5 none ∈ nm_tb := nm_in (List.mem_of_getElem? (i := 520) (by decide +kernel)) (by decide +kernel)
theorem nw_521 : Cond.methodLink "PlannedTables$Run" 3 Lib.objectInit ∈ nm_tb := nm_in (List.mem_of_getElem? (i := 521) (by decide +kernel)) (by decide +kernel)
theorem nw_522 : Cond.fieldLink "PlannedTables$Run" 15 "PlannedTables$Run" "tables" "LPlannedTables$Tables;" ∈ nm_tb := nm_in (List.mem_of_getElem? (i := 522) (by decide +kernel)) (by decide +kernel)
theorem nw_523 : Cond.fieldLink "PlannedTables$Run" 19 "PlannedTables$Run" "plan" "LPlannedTables$Plan;" ∈ nm_tb := nm_in (List.mem_of_getElem? (i := 523) (by decide +kernel)) (by decide +kernel)
theorem nw_524 : Cond.fieldLink "PlannedTables$Run" 23 "PlannedTables$Run" "output" "LPlannedTables$Output;" ∈ nm_tb := nm_in (List.mem_of_getElem? (i := 524) (by decide +kernel)) (by decide +kernel)
theorem nw_525 : Cond.fieldLink "PlannedTables$Run" 27 "PlannedTables$Run" "fuel" "I" ∈ nm_tb := nm_in (List.mem_of_getElem? (i := 525) (by decide +kernel)) (by decide +kernel)
theorem nw_526 : Cond.fieldLink "PlannedTables$Run" 154 "PlannedTables$Run" "visited" "I" ∈ nm_tb := nm_in (List.mem_of_getElem? (i := 526) (by decide +kernel)) (by decide +kernel)
theorem nw_527 : Cond.fieldLink "PlannedTables" 151 "PlannedTables$Run" "visited" "I" ∈ nm_tb := nm_in (List.mem_of_getElem? (i := 527) (by decide +kernel)) (by decide +kernel)
theorem nw_528 : Cond.fieldLink "PlannedTables$Run" 9 "PlannedTables$Run" "row" "[I" ∈ nm_tb := nm_in (List.mem_of_getElem? (i := 528) (by decide +kernel)) (by decide +kernel)
theorem nw_541 : Cond.superclass "PlannedTables$Run" "java/lang/Object" ∈ nm_tb := nm_in (List.mem_of_getElem? (i := 541) (by decide +kernel)) (by decide +kernel)
theorem nw_542 : Cond.methodLink "PlannedTables" 144 y_RN_askForAll ∈ nm_tb := nm_in (List.mem_of_getElem? (i := 542) (by decide +kernel)) (by decide +kernel)
theorem nw_543 : Cond.instanceMethod y_RN_askForAll ∈ nm_tb := nm_in (List.mem_of_getElem? (i := 543) (by decide +kernel)) (by decide +kernel)
theorem nw_544 : Cond.selects "PlannedTables$Run" y_RN_askForAll y_RN_askForAll ∈ nm_tb := nm_in (List.mem_of_getElem? (i := 544) (by decide +kernel)) (by decide +kernel)
theorem nw_545 : Cond.code y_RN_askForAll b_RN_askForAll 9 (some .int) ∈ nm_tb := nm_in (List.mem_of_getElem? (i := 545) (by decide +kernel)) (by decide +kernel)
theorem nw_546 : Cond.methodLink "PlannedTables$Run" 40 y_RN_begin ∈ nm_tb := nm_in (List.mem_of_getElem? (i := 546) (by decide +kernel)) (by decide +kernel)
theorem nw_548 : Cond.instanceMethod y_RN_begin ∈ nm_tb := nm_in (List.mem_of_getElem? (i := 548) (by decide +kernel)) (by decide +kernel)
theorem nw_549 : Cond.code y_RN_begin b_RN_begin 2 none ∈ nm_tb := nm_in (List.mem_of_getElem? (i := 549) (by decide +kernel)) (by decide +kernel)
theorem nw_550 : Cond.methodLink "PlannedTables$Run" 75 y_RN_wordOf ∈ nm_tb := nm_in (List.mem_of_getElem? (i := 550) (by decide +kernel)) (by decide +kernel)
theorem nw_552 : Cond.instanceMethod y_RN_wordOf ∈ nm_tb := nm_in (List.mem_of_getElem? (i := 552) (by decide +kernel)) (by decide +kernel)
theorem nw_553 : Cond.code y_RN_wordOf b_RN_wordOf 3 (some .int) ∈ nm_tb := nm_in (List.mem_of_getElem? (i := 553) (by decide +kernel)) (by decide +kernel)
theorem nw_554 : Cond.constant "PlannedTables$Run" 84 (-2147483648) ∈ nm_tb := nm_in (List.mem_of_getElem? (i := 554) (by decide +kernel)) (by decide +kernel)
theorem nw_555 : Cond.constant "PlannedTables$Run" 85 2147483647 ∈ nm_tb := nm_in (List.mem_of_getElem? (i := 555) (by decide +kernel)) (by decide +kernel)
theorem nw_556 : Cond.methodLink "PlannedTables$Run" 86 y_RN_beginWalk ∈ nm_tb := nm_in (List.mem_of_getElem? (i := 556) (by decide +kernel)) (by decide +kernel)
theorem nw_558 : Cond.instanceMethod y_RN_beginWalk ∈ nm_tb := nm_in (List.mem_of_getElem? (i := 558) (by decide +kernel)) (by decide +kernel)
theorem nw_559 : Cond.code y_RN_beginWalk b_RN_beginWalk 4 none ∈ nm_tb := nm_in (List.mem_of_getElem? (i := 559) (by decide +kernel)) (by decide +kernel)
theorem nw_560 : Cond.methodLink "PlannedTables$Run" 144 y_TB_placeFrom ∈ nm_tb := nm_in (List.mem_of_getElem? (i := 560) (by decide +kernel)) (by decide +kernel)
theorem nw_561 : Cond.constantLong "PlannedTables$Run" 44 4 ∈ nm_tb := nm_in (List.mem_of_getElem? (i := 561) (by decide +kernel)) (by decide +kernel)
theorem nw_562 : Cond.constantLong "PlannedTables$Run" 46 2 ∈ nm_tb := nm_in (List.mem_of_getElem? (i := 562) (by decide +kernel)) (by decide +kernel)
theorem nw_563 : Cond.constantLong "PlannedTables$Run" 48 39 ∈ nm_tb := nm_in (List.mem_of_getElem? (i := 563) (by decide +kernel)) (by decide +kernel)
theorem nw_564 : Cond.methodLink "PlannedTables$Run" 50 y_RN_react ∈ nm_tb := nm_in (List.mem_of_getElem? (i := 564) (by decide +kernel)) (by decide +kernel)
theorem nw_566 : Cond.instanceMethod y_RN_react ∈ nm_tb := nm_in (List.mem_of_getElem? (i := 566) (by decide +kernel)) (by decide +kernel)
theorem nw_567 : Cond.code y_RN_react b_RN_react 3 (some .int) ∈ nm_tb := nm_in (List.mem_of_getElem? (i := 567) (by decide +kernel)) (by decide +kernel)
theorem nw_568 : Cond.methodLink "PlannedTables$Run" 102 y_RN_whenAsked ∈ nm_tb := nm_in (List.mem_of_getElem? (i := 568) (by decide +kernel)) (by decide +kernel)
theorem nw_570 : Cond.instanceMethod y_RN_whenAsked ∈ nm_tb := nm_in (List.mem_of_getElem? (i := 570) (by decide +kernel)) (by decide +kernel)
theorem nw_571 : Cond.code y_RN_whenAsked b_RN_whenAsked 2 (some .int) ∈ nm_tb := nm_in (List.mem_of_getElem? (i := 571) (by decide +kernel)) (by decide +kernel)
theorem nw_572 : Cond.methodLink "PlannedTables$Run" 112 y_RN_walkOn ∈ nm_tb := nm_in (List.mem_of_getElem? (i := 572) (by decide +kernel)) (by decide +kernel)
theorem nw_574 : Cond.instanceMethod y_RN_walkOn ∈ nm_tb := nm_in (List.mem_of_getElem? (i := 574) (by decide +kernel)) (by decide +kernel)
theorem nw_575 : Cond.code y_RN_walkOn b_RN_walkOn 4 (some .int) ∈ nm_tb := nm_in (List.mem_of_getElem? (i := 575) (by decide +kernel)) (by decide +kernel)
theorem nw_576 : Cond.methodLink "PlannedTables$Run" 151 y_TB_cellAt ∈ nm_tb := nm_in (List.mem_of_getElem? (i := 576) (by decide +kernel)) (by decide +kernel)
theorem nw_577 : Cond.methodLink "PlannedTables$Run" 131 y_RN_copyCells ∈ nm_tb := nm_in (List.mem_of_getElem? (i := 577) (by decide +kernel)) (by decide +kernel)
theorem nw_578 : Cond.static y_RN_copyCells ∈ nm_tb := nm_in (List.mem_of_getElem? (i := 578) (by decide +kernel)) (by decide +kernel)
theorem nw_579 : Cond.code y_RN_copyCells b_RN_copyCells 4 none ∈ nm_tb := nm_in (List.mem_of_getElem? (i := 579) (by decide +kernel)) (by decide +kernel)
theorem nw_580 : Cond.methodLink "PlannedTables$Run" 157 y_TB_copyRow ∈ nm_tb := nm_in (List.mem_of_getElem? (i := 580) (by decide +kernel)) (by decide +kernel)
theorem nw_581 : Cond.instanceMethod y_TB_copyRow ∈ nm_tb := nm_in (List.mem_of_getElem? (i := 581) (by decide +kernel)) (by decide +kernel)
theorem nw_582 : Cond.selects "PlannedTables$Table" y_TB_copyRow y_TB_copyRow ∈ nm_tb := nm_in (List.mem_of_getElem? (i := 582) (by decide +kernel)) (by decide +kernel)
theorem nw_583 : Cond.code y_TB_copyRow b_TB_copyRow 7 none ∈ nm_tb := nm_in (List.mem_of_getElem? (i := 583) (by decide +kernel)) (by decide +kernel)
theorem nw_584 : Cond.methodLink "PlannedTables$Run" 106 y_RN_whenGiven ∈ nm_tb := nm_in (List.mem_of_getElem? (i := 584) (by decide +kernel)) (by decide +kernel)
theorem nw_586 : Cond.instanceMethod y_RN_whenGiven ∈ nm_tb := nm_in (List.mem_of_getElem? (i := 586) (by decide +kernel)) (by decide +kernel)
theorem nw_587 : Cond.code y_RN_whenGiven b_RN_whenGiven 2 (some .int) ∈ nm_tb := nm_in (List.mem_of_getElem? (i := 587) (by decide +kernel)) (by decide +kernel)
theorem nw_588 : Cond.methodLink "PlannedTables$Run" 115 y_RN_cellOf ∈ nm_tb := nm_in (List.mem_of_getElem? (i := 588) (by decide +kernel)) (by decide +kernel)
theorem nw_590 : Cond.instanceMethod y_RN_cellOf ∈ nm_tb := nm_in (List.mem_of_getElem? (i := 590) (by decide +kernel)) (by decide +kernel)
theorem nw_591 : Cond.code y_RN_cellOf b_RN_cellOf 3 (some .int) ∈ nm_tb := nm_in (List.mem_of_getElem? (i := 591) (by decide +kernel)) (by decide +kernel)
theorem nw_592 : Cond.methodLink "PlannedTables$Run" 118 y_RN_holds ∈ nm_tb := nm_in (List.mem_of_getElem? (i := 592) (by decide +kernel)) (by decide +kernel)
theorem nw_593 : Cond.static y_RN_holds ∈ nm_tb := nm_in (List.mem_of_getElem? (i := 593) (by decide +kernel)) (by decide +kernel)
theorem nw_594 : Cond.code y_RN_holds b_RN_holds 3 (some .boolean) ∈ nm_tb := nm_in (List.mem_of_getElem? (i := 594) (by decide +kernel)) (by decide +kernel)
theorem nw_595 : Cond.methodLink "PlannedTables$Run" 122 y_RN_pick ∈ nm_tb := nm_in (List.mem_of_getElem? (i := 595) (by decide +kernel)) (by decide +kernel)
theorem nw_597 : Cond.instanceMethod y_RN_pick ∈ nm_tb := nm_in (List.mem_of_getElem? (i := 597) (by decide +kernel)) (by decide +kernel)
theorem nw_598 : Cond.code y_RN_pick b_RN_pick 4 none ∈ nm_tb := nm_in (List.mem_of_getElem? (i := 598) (by decide +kernel)) (by decide +kernel)
theorem nw_599 : Cond.methodLink "PlannedTables$Run" 135 y_RN_skipOrGive ∈ nm_tb := nm_in (List.mem_of_getElem? (i := 599) (by decide +kernel)) (by decide +kernel)
theorem nw_601 : Cond.instanceMethod y_RN_skipOrGive ∈ nm_tb := nm_in (List.mem_of_getElem? (i := 601) (by decide +kernel)) (by decide +kernel)
theorem nw_602 : Cond.code y_RN_skipOrGive b_RN_skipOrGive 2 (some .int) ∈ nm_tb := nm_in (List.mem_of_getElem? (i := 602) (by decide +kernel)) (by decide +kernel)
theorem nw_603 : Cond.methodLink "PlannedTables$Run" 138 y_RN_addToGroup ∈ nm_tb := nm_in (List.mem_of_getElem? (i := 603) (by decide +kernel)) (by decide +kernel)
theorem nw_605 : Cond.instanceMethod y_RN_addToGroup ∈ nm_tb := nm_in (List.mem_of_getElem? (i := 605) (by decide +kernel)) (by decide +kernel)
theorem nw_606 : Cond.code y_RN_addToGroup b_RN_addToGroup 3 (some .int) ∈ nm_tb := nm_in (List.mem_of_getElem? (i := 606) (by decide +kernel)) (by decide +kernel)
theorem nw_607 : Cond.methodLink "PlannedTables$Run" 141 y_RN_writeGroup ∈ nm_tb := nm_in (List.mem_of_getElem? (i := 607) (by decide +kernel)) (by decide +kernel)
theorem nw_609 : Cond.instanceMethod y_RN_writeGroup ∈ nm_tb := nm_in (List.mem_of_getElem? (i := 609) (by decide +kernel)) (by decide +kernel)
theorem nw_610 : Cond.code y_RN_writeGroup b_RN_writeGroup 2 none ∈ nm_tb := nm_in (List.mem_of_getElem? (i := 610) (by decide +kernel)) (by decide +kernel)
theorem nw_611 : Cond.methodLink "PlannedTables$Run" 109 y_RN_whenEnded ∈ nm_tb := nm_in (List.mem_of_getElem? (i := 611) (by decide +kernel)) (by decide +kernel)
theorem nw_613 : Cond.instanceMethod y_RN_whenEnded ∈ nm_tb := nm_in (List.mem_of_getElem? (i := 613) (by decide +kernel)) (by decide +kernel)
theorem nw_614 : Cond.code y_RN_whenEnded b_RN_whenEnded 2 (some .int) ∈ nm_tb := nm_in (List.mem_of_getElem? (i := 614) (by decide +kernel)) (by decide +kernel)
theorem nw_615 : Cond.methodLink "PlannedTables$Run" 57 y_OP_add ∈ nm_tb := nm_in (List.mem_of_getElem? (i := 615) (by decide +kernel)) (by decide +kernel)
theorem nw_616 : Cond.instanceMethod y_OP_add ∈ nm_tb := nm_in (List.mem_of_getElem? (i := 616) (by decide +kernel)) (by decide +kernel)
theorem nw_617 : Cond.selects "PlannedTables$Output" y_OP_add y_OP_add ∈ nm_tb := nm_in (List.mem_of_getElem? (i := 617) (by decide +kernel)) (by decide +kernel)
theorem nw_618 : Cond.code y_OP_add b_OP_add 4 (some .boolean) ∈ nm_tb := nm_in (List.mem_of_getElem? (i := 618) (by decide +kernel)) (by decide +kernel)
theorem nw_621 : Cond.classLink "PlannedTablesLaw" 45 "PlannedTablesModel" ∈ nm_tb := nm_in (List.mem_of_getElem? (i := 621) (by decide +kernel)) (by decide +kernel)
theorem nw_622 : Cond.instantiable "PlannedTablesModel" 32 ∈ nm_tb := nm_in (List.mem_of_getElem? (i := 622) (by decide +kernel)) (by decide +kernel)
theorem nw_623 : Cond.methodLink "PlannedTablesLaw" 47 y_MD_init ∈ nm_tb := nm_in (List.mem_of_getElem? (i := 623) (by decide +kernel)) (by decide +kernel)
theorem nw_624 : Cond.instanceMethod y_MD_init ∈ nm_tb := nm_in (List.mem_of_getElem? (i := 624) (by decide +kernel)) (by decide +kernel)
theorem nw_625 : Cond.code y_MD_init b_MD_init 1 none ∈ nm_tb := nm_in (List.mem_of_getElem? (i := 625) (by decide +kernel)) (by decide +kernel)
theorem nw_626 : Cond.methodLink "PlannedTablesModel" 1 Lib.objectInit ∈ nm_tb := nm_in (List.mem_of_getElem? (i := 626) (by decide +kernel)) (by decide +kernel)
theorem nw_627 : Cond.fieldLink "PlannedTablesModel" 56 "PlannedTablesModel" "code" "I" ∈ nm_tb := nm_in (List.mem_of_getElem? (i := 627) (by decide +kernel)) (by decide +kernel)
theorem nw_628 : Cond.fieldLink "PlannedTablesModel" 60 "PlannedTablesModel" "tables" "I" ∈ nm_tb := nm_in (List.mem_of_getElem? (i := 628) (by decide +kernel)) (by decide +kernel)
theorem nw_629 : Cond.fieldLink "PlannedTablesModel" 7 "PlannedTablesModel" "columns" "[I" ∈ nm_tb := nm_in (List.mem_of_getElem? (i := 629) (by decide +kernel)) (by decide +kernel)
theorem nw_630 : Cond.fieldLink "PlannedTablesModel" 13 "PlannedTablesModel" "indexed" "[Z" ∈ nm_tb := nm_in (List.mem_of_getElem? (i := 630) (by decide +kernel)) (by decide +kernel)
theorem nw_631 : Cond.fieldLink "PlannedTablesModel" 17 "PlannedTablesModel" "staged" "[I" ∈ nm_tb := nm_in (List.mem_of_getElem? (i := 631) (by decide +kernel)) (by decide +kernel)
theorem nw_632 : Cond.fieldLink "PlannedTablesModel" 71 "PlannedTablesModel" "rows" "I" ∈ nm_tb := nm_in (List.mem_of_getElem? (i := 632) (by decide +kernel)) (by decide +kernel)
theorem nw_633 : Cond.fieldLink "PlannedTablesModel" 20 "PlannedTablesModel" "of" "[I" ∈ nm_tb := nm_in (List.mem_of_getElem? (i := 633) (by decide +kernel)) (by decide +kernel)
theorem nw_634 : Cond.fieldLink "PlannedTablesModel" 23 "PlannedTablesModel" "cells" "[I" ∈ nm_tb := nm_in (List.mem_of_getElem? (i := 634) (by decide +kernel)) (by decide +kernel)
theorem nw_635 : Cond.fieldLink "PlannedTablesModel" 82 "PlannedTablesModel" "words" "I" ∈ nm_tb := nm_in (List.mem_of_getElem? (i := 635) (by decide +kernel)) (by decide +kernel)
theorem nw_636 : Cond.fieldLink "PlannedTablesModel" 26 "PlannedTablesModel" "plan" "[I" ∈ nm_tb := nm_in (List.mem_of_getElem? (i := 636) (by decide +kernel)) (by decide +kernel)
theorem nw_637 : Cond.fieldLink "PlannedTablesModel" 107 "PlannedTablesModel" "steps" "I" ∈ nm_tb := nm_in (List.mem_of_getElem? (i := 637) (by decide +kernel)) (by decide +kernel)
theorem nw_638 : Cond.fieldLink "PlannedTablesModel" 85 "PlannedTablesModel" "wrong" "I" ∈ nm_tb := nm_in (List.mem_of_getElem? (i := 638) (by decide +kernel)) (by decide +kernel)
theorem nw_639 : Cond.fieldLink "PlannedTablesModel" 29 "PlannedTablesModel" "ops" "[I" ∈ nm_tb := nm_in (List.mem_of_getElem? (i := 639) (by decide +kernel)) (by decide +kernel)
theorem nw_640 : Cond.fieldLink "PlannedTablesModel" 32 "PlannedTablesModel" "at" "[I" ∈ nm_tb := nm_in (List.mem_of_getElem? (i := 640) (by decide +kernel)) (by decide +kernel)
theorem nw_641 : Cond.fieldLink "PlannedTablesModel" 35 "PlannedTablesModel" "wide" "[I" ∈ nm_tb := nm_in (List.mem_of_getElem? (i := 641) (by decide +kernel)) (by decide +kernel)
theorem nw_642 : Cond.fieldLink "PlannedTablesModel" 95 "PlannedTablesModel" "width" "I" ∈ nm_tb := nm_in (List.mem_of_getElem? (i := 642) (by decide +kernel)) (by decide +kernel)
theorem nw_643 : Cond.fieldLink "PlannedTablesModel" 122 "PlannedTablesModel" "fuel" "I" ∈ nm_tb := nm_in (List.mem_of_getElem? (i := 643) (by decide +kernel)) (by decide +kernel)
theorem nw_644 : Cond.fieldLink "PlannedTablesModel" 119 "PlannedTablesModel" "visited" "I" ∈ nm_tb := nm_in (List.mem_of_getElem? (i := 644) (by decide +kernel)) (by decide +kernel)
theorem nw_645 : Cond.fieldLink "PlannedTablesModel" 125 "PlannedTablesModel" "spent" "Z" ∈ nm_tb := nm_in (List.mem_of_getElem? (i := 645) (by decide +kernel)) (by decide +kernel)
theorem nw_646 : Cond.fieldLink "PlannedTablesModel" 162 "PlannedTablesModel" "full" "Z" ∈ nm_tb := nm_in (List.mem_of_getElem? (i := 646) (by decide +kernel)) (by decide +kernel)
theorem nw_647 : Cond.fieldLink "PlannedTablesModel" 138 "PlannedTablesModel" "carried" "I" ∈ nm_tb := nm_in (List.mem_of_getElem? (i := 647) (by decide +kernel)) (by decide +kernel)
theorem nw_648 : Cond.fieldLink "PlannedTablesModel" 38 "PlannedTablesModel" "row" "[I" ∈ nm_tb := nm_in (List.mem_of_getElem? (i := 648) (by decide +kernel)) (by decide +kernel)
theorem nw_649 : Cond.fieldLink "PlannedTablesModel" 41 "PlannedTablesModel" "numbers" "[I" ∈ nm_tb := nm_in (List.mem_of_getElem? (i := 649) (by decide +kernel)) (by decide +kernel)
theorem nw_650 : Cond.fieldLink "PlannedTablesModel" 44 "PlannedTablesModel" "latest" "[I" ∈ nm_tb := nm_in (List.mem_of_getElem? (i := 650) (by decide +kernel)) (by decide +kernel)
theorem nw_651 : Cond.fieldLink "PlannedTablesModel" 47 "PlannedTablesModel" "has" "[Z" ∈ nm_tb := nm_in (List.mem_of_getElem? (i := 651) (by decide +kernel)) (by decide +kernel)
theorem nw_652 : Cond.fieldLink "PlannedTablesModel" 50 "PlannedTablesModel" "lefts" "[I" ∈ nm_tb := nm_in (List.mem_of_getElem? (i := 652) (by decide +kernel)) (by decide +kernel)
theorem nw_653 : Cond.fieldLink "PlannedTablesModel" 132 "PlannedTablesModel" "lastCell" "I" ∈ nm_tb := nm_in (List.mem_of_getElem? (i := 653) (by decide +kernel)) (by decide +kernel)
theorem nw_654 : Cond.fieldLink "PlannedTablesModel" 135 "PlannedTablesModel" "lastKey" "I" ∈ nm_tb := nm_in (List.mem_of_getElem? (i := 654) (by decide +kernel)) (by decide +kernel)
theorem nw_655 : Cond.fieldLink "PlannedTablesModel" 129 "PlannedTablesModel" "begun" "Z" ∈ nm_tb := nm_in (List.mem_of_getElem? (i := 655) (by decide +kernel)) (by decide +kernel)
theorem nw_656 : Cond.fieldLink "PlannedTablesModel" 204 "PlannedTablesModel" "visits" "I" ∈ nm_tb := nm_in (List.mem_of_getElem? (i := 656) (by decide +kernel)) (by decide +kernel)
theorem nw_657 : Cond.fieldLink "PlannedTablesModel" 159 "PlannedTablesModel" "size" "I" ∈ nm_tb := nm_in (List.mem_of_getElem? (i := 657) (by decide +kernel)) (by decide +kernel)
theorem nw_658 : Cond.fieldLink "PlannedTablesModel" 53 "PlannedTablesModel" "output" "[I" ∈ nm_tb := nm_in (List.mem_of_getElem? (i := 658) (by decide +kernel)) (by decide +kernel)
theorem nw_723 : Cond.superclass "PlannedTablesModel" "java/lang/Object" ∈ nm_tb := nm_in (List.mem_of_getElem? (i := 723) (by decide +kernel)) (by decide +kernel)
theorem nw_724 : Cond.methodLink "PlannedTablesLaw" 54 y_MD_thrown ∈ nm_tb := nm_in (List.mem_of_getElem? (i := 724) (by decide +kernel)) (by decide +kernel)
theorem nw_725 : Cond.instanceMethod y_MD_thrown ∈ nm_tb := nm_in (List.mem_of_getElem? (i := 725) (by decide +kernel)) (by decide +kernel)
theorem nw_726 : Cond.selects "PlannedTablesModel" y_MD_thrown y_MD_thrown ∈ nm_tb := nm_in (List.mem_of_getElem? (i := 726) (by decide +kernel)) (by decide +kernel)
theorem nw_727 : Cond.code y_MD_thrown b_MD_thrown 1 (some .int) ∈ nm_tb := nm_in (List.mem_of_getElem? (i := 727) (by decide +kernel)) (by decide +kernel)
theorem nw_728 : Cond.methodLink "PlannedTablesLaw" 53 y_MD_table ∈ nm_tb := nm_in (List.mem_of_getElem? (i := 728) (by decide +kernel)) (by decide +kernel)
theorem nw_729 : Cond.instanceMethod y_MD_table ∈ nm_tb := nm_in (List.mem_of_getElem? (i := 729) (by decide +kernel)) (by decide +kernel)
theorem nw_730 : Cond.selects "PlannedTablesModel" y_MD_table y_MD_table ∈ nm_tb := nm_in (List.mem_of_getElem? (i := 730) (by decide +kernel)) (by decide +kernel)
theorem nw_731 : Cond.code y_MD_table b_MD_table 2 (some .int) ∈ nm_tb := nm_in (List.mem_of_getElem? (i := 731) (by decide +kernel)) (by decide +kernel)
theorem nw_732 : Cond.methodLink "PlannedTablesLaw" 61 y_MD_index ∈ nm_tb := nm_in (List.mem_of_getElem? (i := 732) (by decide +kernel)) (by decide +kernel)
theorem nw_733 : Cond.instanceMethod y_MD_index ∈ nm_tb := nm_in (List.mem_of_getElem? (i := 733) (by decide +kernel)) (by decide +kernel)
theorem nw_734 : Cond.selects "PlannedTablesModel" y_MD_index y_MD_index ∈ nm_tb := nm_in (List.mem_of_getElem? (i := 734) (by decide +kernel)) (by decide +kernel)
theorem nw_735 : Cond.code y_MD_index b_MD_index 3 (some .boolean) ∈ nm_tb := nm_in (List.mem_of_getElem? (i := 735) (by decide +kernel)) (by decide +kernel)
theorem nw_736 : Cond.methodLink "PlannedTablesModel" 63 y_MD_isTable ∈ nm_tb := nm_in (List.mem_of_getElem? (i := 736) (by decide +kernel)) (by decide +kernel)
theorem nw_738 : Cond.instanceMethod y_MD_isTable ∈ nm_tb := nm_in (List.mem_of_getElem? (i := 738) (by decide +kernel)) (by decide +kernel)
theorem nw_739 : Cond.code y_MD_isTable b_MD_isTable 2 (some .boolean) ∈ nm_tb := nm_in (List.mem_of_getElem? (i := 739) (by decide +kernel)) (by decide +kernel)
theorem nw_740 : Cond.methodLink "PlannedTablesModel" 67 y_MD_isColumn ∈ nm_tb := nm_in (List.mem_of_getElem? (i := 740) (by decide +kernel)) (by decide +kernel)
theorem nw_742 : Cond.instanceMethod y_MD_isColumn ∈ nm_tb := nm_in (List.mem_of_getElem? (i := 742) (by decide +kernel)) (by decide +kernel)
theorem nw_743 : Cond.code y_MD_isColumn b_MD_isColumn 3 (some .boolean) ∈ nm_tb := nm_in (List.mem_of_getElem? (i := 743) (by decide +kernel)) (by decide +kernel)
theorem nw_744 : Cond.methodLink "PlannedTablesLaw" 65 y_MD_stage ∈ nm_tb := nm_in (List.mem_of_getElem? (i := 744) (by decide +kernel)) (by decide +kernel)
theorem nw_745 : Cond.instanceMethod y_MD_stage ∈ nm_tb := nm_in (List.mem_of_getElem? (i := 745) (by decide +kernel)) (by decide +kernel)
theorem nw_746 : Cond.selects "PlannedTablesModel" y_MD_stage y_MD_stage ∈ nm_tb := nm_in (List.mem_of_getElem? (i := 746) (by decide +kernel)) (by decide +kernel)
theorem nw_747 : Cond.code y_MD_stage b_MD_stage 3 (some .boolean) ∈ nm_tb := nm_in (List.mem_of_getElem? (i := 747) (by decide +kernel)) (by decide +kernel)
theorem nw_748 : Cond.methodLink "PlannedTablesLaw" 68 y_MD_insert ∈ nm_tb := nm_in (List.mem_of_getElem? (i := 748) (by decide +kernel)) (by decide +kernel)
theorem nw_749 : Cond.instanceMethod y_MD_insert ∈ nm_tb := nm_in (List.mem_of_getElem? (i := 749) (by decide +kernel)) (by decide +kernel)
theorem nw_750 : Cond.selects "PlannedTablesModel" y_MD_insert y_MD_insert ∈ nm_tb := nm_in (List.mem_of_getElem? (i := 750) (by decide +kernel)) (by decide +kernel)
theorem nw_751 : Cond.code y_MD_insert b_MD_insert 3 (some .int) ∈ nm_tb := nm_in (List.mem_of_getElem? (i := 751) (by decide +kernel)) (by decide +kernel)
theorem nw_752 : Cond.methodLink "PlannedTablesModel" 74 y_MD_rowWith ∈ nm_tb := nm_in (List.mem_of_getElem? (i := 752) (by decide +kernel)) (by decide +kernel)
theorem nw_754 : Cond.instanceMethod y_MD_rowWith ∈ nm_tb := nm_in (List.mem_of_getElem? (i := 754) (by decide +kernel)) (by decide +kernel)
theorem nw_755 : Cond.code y_MD_rowWith b_MD_rowWith 5 (some .int) ∈ nm_tb := nm_in (List.mem_of_getElem? (i := 755) (by decide +kernel)) (by decide +kernel)
theorem nw_756 : Cond.methodLink "PlannedTablesModel" 78 y_MD_rowsOf ∈ nm_tb := nm_in (List.mem_of_getElem? (i := 756) (by decide +kernel)) (by decide +kernel)
theorem nw_758 : Cond.instanceMethod y_MD_rowsOf ∈ nm_tb := nm_in (List.mem_of_getElem? (i := 758) (by decide +kernel)) (by decide +kernel)
theorem nw_759 : Cond.code y_MD_rowsOf b_MD_rowsOf 4 (some .int) ∈ nm_tb := nm_in (List.mem_of_getElem? (i := 759) (by decide +kernel)) (by decide +kernel)
theorem nw_760 : Cond.methodLink "PlannedTablesLaw" 71 y_MD_delete ∈ nm_tb := nm_in (List.mem_of_getElem? (i := 760) (by decide +kernel)) (by decide +kernel)
theorem nw_761 : Cond.instanceMethod y_MD_delete ∈ nm_tb := nm_in (List.mem_of_getElem? (i := 761) (by decide +kernel)) (by decide +kernel)
theorem nw_762 : Cond.selects "PlannedTablesModel" y_MD_delete y_MD_delete ∈ nm_tb := nm_in (List.mem_of_getElem? (i := 762) (by decide +kernel)) (by decide +kernel)
theorem nw_763 : Cond.code y_MD_delete b_MD_delete 5 (some .int) ∈ nm_tb := nm_in (List.mem_of_getElem? (i := 763) (by decide +kernel)) (by decide +kernel)
theorem nw_764 : Cond.methodLink "PlannedTablesLaw" 75 y_MD_cell ∈ nm_tb := nm_in (List.mem_of_getElem? (i := 764) (by decide +kernel)) (by decide +kernel)
theorem nw_765 : Cond.instanceMethod y_MD_cell ∈ nm_tb := nm_in (List.mem_of_getElem? (i := 765) (by decide +kernel)) (by decide +kernel)
theorem nw_766 : Cond.selects "PlannedTablesModel" y_MD_cell y_MD_cell ∈ nm_tb := nm_in (List.mem_of_getElem? (i := 766) (by decide +kernel)) (by decide +kernel)
theorem nw_767 : Cond.code y_MD_cell b_MD_cell 4 (some .int) ∈ nm_tb := nm_in (List.mem_of_getElem? (i := 767) (by decide +kernel)) (by decide +kernel)
theorem nw_768 : Cond.methodLink "PlannedTablesLaw" 78 y_MD_keyFrom ∈ nm_tb := nm_in (List.mem_of_getElem? (i := 768) (by decide +kernel)) (by decide +kernel)
theorem nw_769 : Cond.instanceMethod y_MD_keyFrom ∈ nm_tb := nm_in (List.mem_of_getElem? (i := 769) (by decide +kernel)) (by decide +kernel)
theorem nw_770 : Cond.selects "PlannedTablesModel" y_MD_keyFrom y_MD_keyFrom ∈ nm_tb := nm_in (List.mem_of_getElem? (i := 770) (by decide +kernel)) (by decide +kernel)
theorem nw_771 : Cond.code y_MD_keyFrom b_MD_keyFrom 6 (some .int) ∈ nm_tb := nm_in (List.mem_of_getElem? (i := 771) (by decide +kernel)) (by decide +kernel)
theorem nw_772 : Cond.methodLink "PlannedTablesLaw" 82 y_MD_rows ∈ nm_tb := nm_in (List.mem_of_getElem? (i := 772) (by decide +kernel)) (by decide +kernel)
theorem nw_773 : Cond.instanceMethod y_MD_rows ∈ nm_tb := nm_in (List.mem_of_getElem? (i := 773) (by decide +kernel)) (by decide +kernel)
theorem nw_774 : Cond.selects "PlannedTablesModel" y_MD_rows y_MD_rows ∈ nm_tb := nm_in (List.mem_of_getElem? (i := 774) (by decide +kernel)) (by decide +kernel)
theorem nw_775 : Cond.code y_MD_rows b_MD_rows 2 (some .int) ∈ nm_tb := nm_in (List.mem_of_getElem? (i := 775) (by decide +kernel)) (by decide +kernel)
theorem nw_776 : Cond.methodLink "PlannedTablesLaw" 87 y_MD_word ∈ nm_tb := nm_in (List.mem_of_getElem? (i := 776) (by decide +kernel)) (by decide +kernel)
theorem nw_777 : Cond.instanceMethod y_MD_word ∈ nm_tb := nm_in (List.mem_of_getElem? (i := 777) (by decide +kernel)) (by decide +kernel)
theorem nw_778 : Cond.selects "PlannedTablesModel" y_MD_word y_MD_word ∈ nm_tb := nm_in (List.mem_of_getElem? (i := 778) (by decide +kernel)) (by decide +kernel)
theorem nw_779 : Cond.code y_MD_word b_MD_word 2 (some .boolean) ∈ nm_tb := nm_in (List.mem_of_getElem? (i := 779) (by decide +kernel)) (by decide +kernel)
theorem nw_780 : Cond.methodLink "PlannedTablesLaw" 91 y_MD_clear ∈ nm_tb := nm_in (List.mem_of_getElem? (i := 780) (by decide +kernel)) (by decide +kernel)
theorem nw_781 : Cond.instanceMethod y_MD_clear ∈ nm_tb := nm_in (List.mem_of_getElem? (i := 781) (by decide +kernel)) (by decide +kernel)
theorem nw_782 : Cond.selects "PlannedTablesModel" y_MD_clear y_MD_clear ∈ nm_tb := nm_in (List.mem_of_getElem? (i := 782) (by decide +kernel)) (by decide +kernel)
theorem nw_783 : Cond.code y_MD_clear b_MD_clear 2 (some .int) ∈ nm_tb := nm_in (List.mem_of_getElem? (i := 783) (by decide +kernel)) (by decide +kernel)
theorem nw_784 : Cond.methodLink "PlannedTablesLaw" 95 y_MD_fault ∈ nm_tb := nm_in (List.mem_of_getElem? (i := 784) (by decide +kernel)) (by decide +kernel)
theorem nw_785 : Cond.instanceMethod y_MD_fault ∈ nm_tb := nm_in (List.mem_of_getElem? (i := 785) (by decide +kernel)) (by decide +kernel)
theorem nw_786 : Cond.selects "PlannedTablesModel" y_MD_fault y_MD_fault ∈ nm_tb := nm_in (List.mem_of_getElem? (i := 786) (by decide +kernel)) (by decide +kernel)
theorem nw_787 : Cond.code y_MD_fault b_MD_fault 1 (some .int) ∈ nm_tb := nm_in (List.mem_of_getElem? (i := 787) (by decide +kernel)) (by decide +kernel)
theorem nw_788 : Cond.methodLink "PlannedTablesModel" 116 y_MD_readPlan ∈ nm_tb := nm_in (List.mem_of_getElem? (i := 788) (by decide +kernel)) (by decide +kernel)
theorem nw_790 : Cond.instanceMethod y_MD_readPlan ∈ nm_tb := nm_in (List.mem_of_getElem? (i := 790) (by decide +kernel)) (by decide +kernel)
theorem nw_791 : Cond.code y_MD_readPlan b_MD_readPlan 3 none ∈ nm_tb := nm_in (List.mem_of_getElem? (i := 791) (by decide +kernel)) (by decide +kernel)
theorem nw_792 : Cond.methodLink "PlannedTablesModel" 110 y_MD_readSource ∈ nm_tb := nm_in (List.mem_of_getElem? (i := 792) (by decide +kernel)) (by decide +kernel)
theorem nw_794 : Cond.instanceMethod y_MD_readSource ∈ nm_tb := nm_in (List.mem_of_getElem? (i := 794) (by decide +kernel)) (by decide +kernel)
theorem nw_795 : Cond.code y_MD_readSource b_MD_readSource 3 none ∈ nm_tb := nm_in (List.mem_of_getElem? (i := 795) (by decide +kernel)) (by decide +kernel)
theorem nw_796 : Cond.methodLink "PlannedTablesModel" 88 y_MD_wordAt ∈ nm_tb := nm_in (List.mem_of_getElem? (i := 796) (by decide +kernel)) (by decide +kernel)
theorem nw_798 : Cond.instanceMethod y_MD_wordAt ∈ nm_tb := nm_in (List.mem_of_getElem? (i := 798) (by decide +kernel)) (by decide +kernel)
theorem nw_799 : Cond.code y_MD_wordAt b_MD_wordAt 2 (some .int) ∈ nm_tb := nm_in (List.mem_of_getElem? (i := 799) (by decide +kernel)) (by decide +kernel)
theorem nw_800 : Cond.methodLink "PlannedTablesModel" 91 y_MD_demand ∈ nm_tb := nm_in (List.mem_of_getElem? (i := 800) (by decide +kernel)) (by decide +kernel)
theorem nw_802 : Cond.instanceMethod y_MD_demand ∈ nm_tb := nm_in (List.mem_of_getElem? (i := 802) (by decide +kernel)) (by decide +kernel)
theorem nw_803 : Cond.code y_MD_demand b_MD_demand 3 none ∈ nm_tb := nm_in (List.mem_of_getElem? (i := 803) (by decide +kernel)) (by decide +kernel)
theorem nw_804 : Cond.methodLink "PlannedTablesModel" 113 y_MD_readStep ∈ nm_tb := nm_in (List.mem_of_getElem? (i := 804) (by decide +kernel)) (by decide +kernel)
theorem nw_806 : Cond.instanceMethod y_MD_readStep ∈ nm_tb := nm_in (List.mem_of_getElem? (i := 806) (by decide +kernel)) (by decide +kernel)
theorem nw_807 : Cond.code y_MD_readStep b_MD_readStep 3 (some .int) ∈ nm_tb := nm_in (List.mem_of_getElem? (i := 807) (by decide +kernel)) (by decide +kernel)
theorem nw_808 : Cond.methodLink "PlannedTablesModel" 98 y_MD_isCell ∈ nm_tb := nm_in (List.mem_of_getElem? (i := 808) (by decide +kernel)) (by decide +kernel)
theorem nw_810 : Cond.instanceMethod y_MD_isCell ∈ nm_tb := nm_in (List.mem_of_getElem? (i := 810) (by decide +kernel)) (by decide +kernel)
theorem nw_811 : Cond.code y_MD_isCell b_MD_isCell 2 (some .boolean) ∈ nm_tb := nm_in (List.mem_of_getElem? (i := 811) (by decide +kernel)) (by decide +kernel)
theorem nw_812 : Cond.methodLink "PlannedTablesModel" 101 y_MD_readCells ∈ nm_tb := nm_in (List.mem_of_getElem? (i := 812) (by decide +kernel)) (by decide +kernel)
theorem nw_814 : Cond.instanceMethod y_MD_readCells ∈ nm_tb := nm_in (List.mem_of_getElem? (i := 814) (by decide +kernel)) (by decide +kernel)
theorem nw_815 : Cond.code y_MD_readCells b_MD_readCells 4 (some .int) ∈ nm_tb := nm_in (List.mem_of_getElem? (i := 815) (by decide +kernel)) (by decide +kernel)
theorem nw_816 : Cond.methodLink "PlannedTablesModel" 104 y_MD_readJoin ∈ nm_tb := nm_in (List.mem_of_getElem? (i := 816) (by decide +kernel)) (by decide +kernel)
theorem nw_818 : Cond.instanceMethod y_MD_readJoin ∈ nm_tb := nm_in (List.mem_of_getElem? (i := 818) (by decide +kernel)) (by decide +kernel)
theorem nw_819 : Cond.code y_MD_readJoin b_MD_readJoin 4 (some .int) ∈ nm_tb := nm_in (List.mem_of_getElem? (i := 819) (by decide +kernel)) (by decide +kernel)
theorem nw_820 : Cond.methodLink "PlannedTablesLaw" 114 y_MD_width ∈ nm_tb := nm_in (List.mem_of_getElem? (i := 820) (by decide +kernel)) (by decide +kernel)
theorem nw_821 : Cond.instanceMethod y_MD_width ∈ nm_tb := nm_in (List.mem_of_getElem? (i := 821) (by decide +kernel)) (by decide +kernel)
theorem nw_822 : Cond.selects "PlannedTablesModel" y_MD_width y_MD_width ∈ nm_tb := nm_in (List.mem_of_getElem? (i := 822) (by decide +kernel)) (by decide +kernel)
theorem nw_823 : Cond.code y_MD_width b_MD_width 1 (some .int) ∈ nm_tb := nm_in (List.mem_of_getElem? (i := 823) (by decide +kernel)) (by decide +kernel)
theorem nw_824 : Cond.methodLink "PlannedTablesLaw" 98 y_MD_run ∈ nm_tb := nm_in (List.mem_of_getElem? (i := 824) (by decide +kernel)) (by decide +kernel)
theorem nw_825 : Cond.instanceMethod y_MD_run ∈ nm_tb := nm_in (List.mem_of_getElem? (i := 825) (by decide +kernel)) (by decide +kernel)
theorem nw_826 : Cond.selects "PlannedTablesModel" y_MD_run y_MD_run ∈ nm_tb := nm_in (List.mem_of_getElem? (i := 826) (by decide +kernel)) (by decide +kernel)
theorem nw_827 : Cond.code y_MD_run b_MD_run 2 (some .int) ∈ nm_tb := nm_in (List.mem_of_getElem? (i := 827) (by decide +kernel)) (by decide +kernel)
theorem nw_828 : Cond.methodLink "PlannedTablesModel" 198 y_MD_ready ∈ nm_tb := nm_in (List.mem_of_getElem? (i := 828) (by decide +kernel)) (by decide +kernel)
theorem nw_830 : Cond.instanceMethod y_MD_ready ∈ nm_tb := nm_in (List.mem_of_getElem? (i := 830) (by decide +kernel)) (by decide +kernel)
theorem nw_831 : Cond.code y_MD_ready b_MD_ready 3 none ∈ nm_tb := nm_in (List.mem_of_getElem? (i := 831) (by decide +kernel)) (by decide +kernel)
theorem nw_832 : Cond.methodLink "PlannedTablesModel" 201 y_MD_go ∈ nm_tb := nm_in (List.mem_of_getElem? (i := 832) (by decide +kernel)) (by decide +kernel)
theorem nw_834 : Cond.instanceMethod y_MD_go ∈ nm_tb := nm_in (List.mem_of_getElem? (i := 834) (by decide +kernel)) (by decide +kernel)
theorem nw_835 : Cond.code y_MD_go b_MD_go 4 none ∈ nm_tb := nm_in (List.mem_of_getElem? (i := 835) (by decide +kernel)) (by decide +kernel)
theorem nw_836 : Cond.methodLink "PlannedTablesModel" 183 y_MD_waiting ∈ nm_tb := nm_in (List.mem_of_getElem? (i := 836) (by decide +kernel)) (by decide +kernel)
theorem nw_838 : Cond.instanceMethod y_MD_waiting ∈ nm_tb := nm_in (List.mem_of_getElem? (i := 838) (by decide +kernel)) (by decide +kernel)
theorem nw_839 : Cond.code y_MD_waiting b_MD_waiting 4 (some .int) ∈ nm_tb := nm_in (List.mem_of_getElem? (i := 839) (by decide +kernel)) (by decide +kernel)
theorem nw_840 : Cond.methodLink "PlannedTablesModel" 186 y_MD_satisfied ∈ nm_tb := nm_in (List.mem_of_getElem? (i := 840) (by decide +kernel)) (by decide +kernel)
theorem nw_842 : Cond.instanceMethod y_MD_satisfied ∈ nm_tb := nm_in (List.mem_of_getElem? (i := 842) (by decide +kernel)) (by decide +kernel)
theorem nw_843 : Cond.code y_MD_satisfied b_MD_satisfied 4 (some .int) ∈ nm_tb := nm_in (List.mem_of_getElem? (i := 843) (by decide +kernel)) (by decide +kernel)
theorem nw_844 : Cond.methodLink "PlannedTablesModel" 189 y_MD_follow ∈ nm_tb := nm_in (List.mem_of_getElem? (i := 844) (by decide +kernel)) (by decide +kernel)
theorem nw_846 : Cond.instanceMethod y_MD_follow ∈ nm_tb := nm_in (List.mem_of_getElem? (i := 846) (by decide +kernel)) (by decide +kernel)
theorem nw_847 : Cond.code y_MD_follow b_MD_follow 4 none ∈ nm_tb := nm_in (List.mem_of_getElem? (i := 847) (by decide +kernel)) (by decide +kernel)
theorem nw_848 : Cond.methodLink "PlannedTablesModel" 168 y_MD_nextOfStep ∈ nm_tb := nm_in (List.mem_of_getElem? (i := 848) (by decide +kernel)) (by decide +kernel)
theorem nw_850 : Cond.instanceMethod y_MD_nextOfStep ∈ nm_tb := nm_in (List.mem_of_getElem? (i := 850) (by decide +kernel)) (by decide +kernel)
theorem nw_851 : Cond.code y_MD_nextOfStep b_MD_nextOfStep 9 (some .int) ∈ nm_tb := nm_in (List.mem_of_getElem? (i := 851) (by decide +kernel)) (by decide +kernel)
theorem nw_852 : Cond.methodLink "PlannedTablesModel" 171 y_MD_visit ∈ nm_tb := nm_in (List.mem_of_getElem? (i := 852) (by decide +kernel)) (by decide +kernel)
theorem nw_854 : Cond.instanceMethod y_MD_visit ∈ nm_tb := nm_in (List.mem_of_getElem? (i := 854) (by decide +kernel)) (by decide +kernel)
theorem nw_855 : Cond.code y_MD_visit b_MD_visit 1 (some .boolean) ∈ nm_tb := nm_in (List.mem_of_getElem? (i := 855) (by decide +kernel)) (by decide +kernel)
theorem nw_856 : Cond.methodLink "PlannedTablesModel" 175 y_MD_load ∈ nm_tb := nm_in (List.mem_of_getElem? (i := 856) (by decide +kernel)) (by decide +kernel)
theorem nw_858 : Cond.instanceMethod y_MD_load ∈ nm_tb := nm_in (List.mem_of_getElem? (i := 858) (by decide +kernel)) (by decide +kernel)
theorem nw_859 : Cond.code y_MD_load b_MD_load 5 none ∈ nm_tb := nm_in (List.mem_of_getElem? (i := 859) (by decide +kernel)) (by decide +kernel)
theorem nw_860 : Cond.methodLink "PlannedTablesModel" 165 y_MD_push ∈ nm_tb := nm_in (List.mem_of_getElem? (i := 860) (by decide +kernel)) (by decide +kernel)
theorem nw_862 : Cond.instanceMethod y_MD_push ∈ nm_tb := nm_in (List.mem_of_getElem? (i := 862) (by decide +kernel)) (by decide +kernel)
theorem nw_863 : Cond.code y_MD_push b_MD_push 4 none ∈ nm_tb := nm_in (List.mem_of_getElem? (i := 863) (by decide +kernel)) (by decide +kernel)
theorem nw_864 : Cond.methodLink "PlannedTablesModel" 156 y_MD_goesOn ∈ nm_tb := nm_in (List.mem_of_getElem? (i := 864) (by decide +kernel)) (by decide +kernel)
theorem nw_866 : Cond.instanceMethod y_MD_goesOn ∈ nm_tb := nm_in (List.mem_of_getElem? (i := 866) (by decide +kernel)) (by decide +kernel)
theorem nw_867 : Cond.code y_MD_goesOn b_MD_goesOn 3 (some .boolean) ∈ nm_tb := nm_in (List.mem_of_getElem? (i := 867) (by decide +kernel)) (by decide +kernel)
theorem nw_868 : Cond.methodLink "PlannedTablesModel" 141 y_MD_passes ∈ nm_tb := nm_in (List.mem_of_getElem? (i := 868) (by decide +kernel)) (by decide +kernel)
theorem nw_869 : Cond.static y_MD_passes ∈ nm_tb := nm_in (List.mem_of_getElem? (i := 869) (by decide +kernel)) (by decide +kernel)
theorem nw_870 : Cond.code y_MD_passes b_MD_passes 3 (some .boolean) ∈ nm_tb := nm_in (List.mem_of_getElem? (i := 870) (by decide +kernel)) (by decide +kernel)
theorem nw_871 : Cond.methodLink "PlannedTablesModel" 145 y_MD_choose ∈ nm_tb := nm_in (List.mem_of_getElem? (i := 871) (by decide +kernel)) (by decide +kernel)
theorem nw_873 : Cond.instanceMethod y_MD_choose ∈ nm_tb := nm_in (List.mem_of_getElem? (i := 873) (by decide +kernel)) (by decide +kernel)
theorem nw_874 : Cond.code y_MD_choose b_MD_choose 4 none ∈ nm_tb := nm_in (List.mem_of_getElem? (i := 874) (by decide +kernel)) (by decide +kernel)
theorem nw_875 : Cond.methodLink "PlannedTablesModel" 149 y_MD_hold ∈ nm_tb := nm_in (List.mem_of_getElem? (i := 875) (by decide +kernel)) (by decide +kernel)
theorem nw_877 : Cond.instanceMethod y_MD_hold ∈ nm_tb := nm_in (List.mem_of_getElem? (i := 877) (by decide +kernel)) (by decide +kernel)
theorem nw_878 : Cond.code y_MD_hold b_MD_hold 4 none ∈ nm_tb := nm_in (List.mem_of_getElem? (i := 878) (by decide +kernel)) (by decide +kernel)
theorem nw_879 : Cond.methodLink "PlannedTablesModel" 153 y_MD_runEnds ∈ nm_tb := nm_in (List.mem_of_getElem? (i := 879) (by decide +kernel)) (by decide +kernel)
theorem nw_881 : Cond.instanceMethod y_MD_runEnds ∈ nm_tb := nm_in (List.mem_of_getElem? (i := 881) (by decide +kernel)) (by decide +kernel)
theorem nw_882 : Cond.code y_MD_runEnds b_MD_runEnds 4 (some .boolean) ∈ nm_tb := nm_in (List.mem_of_getElem? (i := 882) (by decide +kernel)) (by decide +kernel)
theorem nw_883 : Cond.methodLink "PlannedTablesModel" 192 y_MD_close ∈ nm_tb := nm_in (List.mem_of_getElem? (i := 883) (by decide +kernel)) (by decide +kernel)
theorem nw_885 : Cond.instanceMethod y_MD_close ∈ nm_tb := nm_in (List.mem_of_getElem? (i := 885) (by decide +kernel)) (by decide +kernel)
theorem nw_886 : Cond.code y_MD_close b_MD_close 3 none ∈ nm_tb := nm_in (List.mem_of_getElem? (i := 886) (by decide +kernel)) (by decide +kernel)
theorem nw_887 : Cond.methodLink "PlannedTablesModel" 195 y_MD_begin ∈ nm_tb := nm_in (List.mem_of_getElem? (i := 887) (by decide +kernel)) (by decide +kernel)
theorem nw_889 : Cond.instanceMethod y_MD_begin ∈ nm_tb := nm_in (List.mem_of_getElem? (i := 889) (by decide +kernel)) (by decide +kernel)
theorem nw_890 : Cond.code y_MD_begin b_MD_begin 2 (some .boolean) ∈ nm_tb := nm_in (List.mem_of_getElem? (i := 890) (by decide +kernel)) (by decide +kernel)
theorem nw_891 : Cond.methodLink "PlannedTablesModel" 179 y_MD_nextOfSource ∈ nm_tb := nm_in (List.mem_of_getElem? (i := 891) (by decide +kernel)) (by decide +kernel)
theorem nw_893 : Cond.instanceMethod y_MD_nextOfSource ∈ nm_tb := nm_in (List.mem_of_getElem? (i := 893) (by decide +kernel)) (by decide +kernel)
theorem nw_894 : Cond.code y_MD_nextOfSource b_MD_nextOfSource 10 (some .int) ∈ nm_tb := nm_in (List.mem_of_getElem? (i := 894) (by decide +kernel)) (by decide +kernel)
theorem nw_895 : Cond.methodLink "PlannedTablesLaw" 102 y_MD_visits ∈ nm_tb := nm_in (List.mem_of_getElem? (i := 895) (by decide +kernel)) (by decide +kernel)
theorem nw_896 : Cond.instanceMethod y_MD_visits ∈ nm_tb := nm_in (List.mem_of_getElem? (i := 896) (by decide +kernel)) (by decide +kernel)
theorem nw_897 : Cond.selects "PlannedTablesModel" y_MD_visits y_MD_visits ∈ nm_tb := nm_in (List.mem_of_getElem? (i := 897) (by decide +kernel)) (by decide +kernel)
theorem nw_898 : Cond.code y_MD_visits b_MD_visits 1 (some .int) ∈ nm_tb := nm_in (List.mem_of_getElem? (i := 898) (by decide +kernel)) (by decide +kernel)
theorem nw_899 : Cond.methodLink "PlannedTablesLaw" 106 y_MD_size ∈ nm_tb := nm_in (List.mem_of_getElem? (i := 899) (by decide +kernel)) (by decide +kernel)
theorem nw_900 : Cond.instanceMethod y_MD_size ∈ nm_tb := nm_in (List.mem_of_getElem? (i := 900) (by decide +kernel)) (by decide +kernel)
theorem nw_901 : Cond.selects "PlannedTablesModel" y_MD_size y_MD_size ∈ nm_tb := nm_in (List.mem_of_getElem? (i := 901) (by decide +kernel)) (by decide +kernel)
theorem nw_902 : Cond.code y_MD_size b_MD_size 1 (some .int) ∈ nm_tb := nm_in (List.mem_of_getElem? (i := 902) (by decide +kernel)) (by decide +kernel)
theorem nw_903 : Cond.methodLink "PlannedTablesLaw" 110 y_MD_out ∈ nm_tb := nm_in (List.mem_of_getElem? (i := 903) (by decide +kernel)) (by decide +kernel)
theorem nw_904 : Cond.instanceMethod y_MD_out ∈ nm_tb := nm_in (List.mem_of_getElem? (i := 904) (by decide +kernel)) (by decide +kernel)
theorem nw_905 : Cond.selects "PlannedTablesModel" y_MD_out y_MD_out ∈ nm_tb := nm_in (List.mem_of_getElem? (i := 905) (by decide +kernel)) (by decide +kernel)
theorem nw_906 : Cond.code y_MD_out b_MD_out 2 (some .int) ∈ nm_tb := nm_in (List.mem_of_getElem? (i := 906) (by decide +kernel)) (by decide +kernel)
theorem nw_907 : Cond.arrayClass .long ∈ nm_tb := nm_in (List.mem_of_getElem? (i := 907) (by decide +kernel)) (by decide +kernel)
theorem np_0 : Cond.selects y_PN_lookAtSource.cls y_PN_lookAtSource y_PN_lookAtSource ∈ nm_tb := nm_inp (List.mem_of_getElem? (i := 0) (by decide +kernel)) (by decide +kernel)
theorem np_1 : Cond.selects y_PN_beginStep.cls y_PN_beginStep y_PN_beginStep ∈ nm_tb := nm_inp (List.mem_of_getElem? (i := 1) (by decide +kernel)) (by decide +kernel)
theorem np_2 : Cond.selects y_PN_next.cls y_PN_next y_PN_next ∈ nm_tb := nm_inp (List.mem_of_getElem? (i := 2) (by decide +kernel)) (by decide +kernel)
theorem np_3 : Cond.selects y_PN_nextIndexed.cls y_PN_nextIndexed y_PN_nextIndexed ∈ nm_tb := nm_inp (List.mem_of_getElem? (i := 3) (by decide +kernel)) (by decide +kernel)
theorem np_4 : Cond.selects y_PN_nextAny.cls y_PN_nextAny y_PN_nextAny ∈ nm_tb := nm_inp (List.mem_of_getElem? (i := 4) (by decide +kernel)) (by decide +kernel)
theorem np_5 : Cond.selects y_PN_lookAtStep.cls y_PN_lookAtStep y_PN_lookAtStep ∈ nm_tb := nm_inp (List.mem_of_getElem? (i := 5) (by decide +kernel)) (by decide +kernel)
theorem np_6 : Cond.selects y_PN_nextColumn.cls y_PN_nextColumn y_PN_nextColumn ∈ nm_tb := nm_inp (List.mem_of_getElem? (i := 6) (by decide +kernel)) (by decide +kernel)
theorem np_7 : Cond.selects y_PN_lookAtPick.cls y_PN_lookAtPick y_PN_lookAtPick ∈ nm_tb := nm_inp (List.mem_of_getElem? (i := 7) (by decide +kernel)) (by decide +kernel)
theorem np_8 : Cond.selects y_PN_lookAtJoin.cls y_PN_lookAtJoin y_PN_lookAtJoin ∈ nm_tb := nm_inp (List.mem_of_getElem? (i := 8) (by decide +kernel)) (by decide +kernel)
theorem np_10 : Cond.selects y_TB_putInOrder.cls y_TB_putInOrder y_TB_putInOrder ∈ nm_tb := nm_inp (List.mem_of_getElem? (i := 10) (by decide +kernel)) (by decide +kernel)
theorem np_11 : Cond.selects y_TB_comesBefore.cls y_TB_comesBefore y_TB_comesBefore ∈ nm_tb := nm_inp (List.mem_of_getElem? (i := 11) (by decide +kernel)) (by decide +kernel)
theorem np_12 : Cond.selects y_TB_removeFromOrder.cls y_TB_removeFromOrder y_TB_removeFromOrder ∈ nm_tb := nm_inp (List.mem_of_getElem? (i := 12) (by decide +kernel)) (by decide +kernel)
theorem np_13 : Cond.selects y_RN_begin.cls y_RN_begin y_RN_begin ∈ nm_tb := nm_inp (List.mem_of_getElem? (i := 13) (by decide +kernel)) (by decide +kernel)
theorem np_14 : Cond.selects y_RN_wordOf.cls y_RN_wordOf y_RN_wordOf ∈ nm_tb := nm_inp (List.mem_of_getElem? (i := 14) (by decide +kernel)) (by decide +kernel)
theorem np_15 : Cond.selects y_RN_beginWalk.cls y_RN_beginWalk y_RN_beginWalk ∈ nm_tb := nm_inp (List.mem_of_getElem? (i := 15) (by decide +kernel)) (by decide +kernel)
theorem np_16 : Cond.selects y_RN_react.cls y_RN_react y_RN_react ∈ nm_tb := nm_inp (List.mem_of_getElem? (i := 16) (by decide +kernel)) (by decide +kernel)
theorem np_17 : Cond.selects y_RN_whenAsked.cls y_RN_whenAsked y_RN_whenAsked ∈ nm_tb := nm_inp (List.mem_of_getElem? (i := 17) (by decide +kernel)) (by decide +kernel)
theorem np_18 : Cond.selects y_RN_walkOn.cls y_RN_walkOn y_RN_walkOn ∈ nm_tb := nm_inp (List.mem_of_getElem? (i := 18) (by decide +kernel)) (by decide +kernel)
theorem np_19 : Cond.selects y_RN_whenGiven.cls y_RN_whenGiven y_RN_whenGiven ∈ nm_tb := nm_inp (List.mem_of_getElem? (i := 19) (by decide +kernel)) (by decide +kernel)
theorem np_20 : Cond.selects y_RN_cellOf.cls y_RN_cellOf y_RN_cellOf ∈ nm_tb := nm_inp (List.mem_of_getElem? (i := 20) (by decide +kernel)) (by decide +kernel)
theorem np_21 : Cond.selects y_RN_pick.cls y_RN_pick y_RN_pick ∈ nm_tb := nm_inp (List.mem_of_getElem? (i := 21) (by decide +kernel)) (by decide +kernel)
theorem np_22 : Cond.selects y_RN_skipOrGive.cls y_RN_skipOrGive y_RN_skipOrGive ∈ nm_tb := nm_inp (List.mem_of_getElem? (i := 22) (by decide +kernel)) (by decide +kernel)
theorem np_23 : Cond.selects y_RN_addToGroup.cls y_RN_addToGroup y_RN_addToGroup ∈ nm_tb := nm_inp (List.mem_of_getElem? (i := 23) (by decide +kernel)) (by decide +kernel)
theorem np_24 : Cond.selects y_RN_writeGroup.cls y_RN_writeGroup y_RN_writeGroup ∈ nm_tb := nm_inp (List.mem_of_getElem? (i := 24) (by decide +kernel)) (by decide +kernel)
theorem np_25 : Cond.selects y_RN_whenEnded.cls y_RN_whenEnded y_RN_whenEnded ∈ nm_tb := nm_inp (List.mem_of_getElem? (i := 25) (by decide +kernel)) (by decide +kernel)
theorem np_26 : Cond.selects y_MD_isTable.cls y_MD_isTable y_MD_isTable ∈ nm_tb := nm_inp (List.mem_of_getElem? (i := 26) (by decide +kernel)) (by decide +kernel)
theorem np_27 : Cond.selects y_MD_isColumn.cls y_MD_isColumn y_MD_isColumn ∈ nm_tb := nm_inp (List.mem_of_getElem? (i := 27) (by decide +kernel)) (by decide +kernel)
theorem np_28 : Cond.selects y_MD_rowWith.cls y_MD_rowWith y_MD_rowWith ∈ nm_tb := nm_inp (List.mem_of_getElem? (i := 28) (by decide +kernel)) (by decide +kernel)
theorem np_29 : Cond.selects y_MD_rowsOf.cls y_MD_rowsOf y_MD_rowsOf ∈ nm_tb := nm_inp (List.mem_of_getElem? (i := 29) (by decide +kernel)) (by decide +kernel)
theorem np_30 : Cond.selects y_MD_readPlan.cls y_MD_readPlan y_MD_readPlan ∈ nm_tb := nm_inp (List.mem_of_getElem? (i := 30) (by decide +kernel)) (by decide +kernel)
theorem np_31 : Cond.selects y_MD_readSource.cls y_MD_readSource y_MD_readSource ∈ nm_tb := nm_inp (List.mem_of_getElem? (i := 31) (by decide +kernel)) (by decide +kernel)
theorem np_32 : Cond.selects y_MD_wordAt.cls y_MD_wordAt y_MD_wordAt ∈ nm_tb := nm_inp (List.mem_of_getElem? (i := 32) (by decide +kernel)) (by decide +kernel)
theorem np_33 : Cond.selects y_MD_demand.cls y_MD_demand y_MD_demand ∈ nm_tb := nm_inp (List.mem_of_getElem? (i := 33) (by decide +kernel)) (by decide +kernel)
theorem np_34 : Cond.selects y_MD_readStep.cls y_MD_readStep y_MD_readStep ∈ nm_tb := nm_inp (List.mem_of_getElem? (i := 34) (by decide +kernel)) (by decide +kernel)
theorem np_35 : Cond.selects y_MD_isCell.cls y_MD_isCell y_MD_isCell ∈ nm_tb := nm_inp (List.mem_of_getElem? (i := 35) (by decide +kernel)) (by decide +kernel)
theorem np_36 : Cond.selects y_MD_readCells.cls y_MD_readCells y_MD_readCells ∈ nm_tb := nm_inp (List.mem_of_getElem? (i := 36) (by decide +kernel)) (by decide +kernel)
theorem np_37 : Cond.selects y_MD_readJoin.cls y_MD_readJoin y_MD_readJoin ∈ nm_tb := nm_inp (List.mem_of_getElem? (i := 37) (by decide +kernel)) (by decide +kernel)
theorem np_38 : Cond.selects y_MD_ready.cls y_MD_ready y_MD_ready ∈ nm_tb := nm_inp (List.mem_of_getElem? (i := 38) (by decide +kernel)) (by decide +kernel)
theorem np_39 : Cond.selects y_MD_go.cls y_MD_go y_MD_go ∈ nm_tb := nm_inp (List.mem_of_getElem? (i := 39) (by decide +kernel)) (by decide +kernel)
theorem np_40 : Cond.selects y_MD_waiting.cls y_MD_waiting y_MD_waiting ∈ nm_tb := nm_inp (List.mem_of_getElem? (i := 40) (by decide +kernel)) (by decide +kernel)
theorem np_41 : Cond.selects y_MD_satisfied.cls y_MD_satisfied y_MD_satisfied ∈ nm_tb := nm_inp (List.mem_of_getElem? (i := 41) (by decide +kernel)) (by decide +kernel)
theorem np_42 : Cond.selects y_MD_follow.cls y_MD_follow y_MD_follow ∈ nm_tb := nm_inp (List.mem_of_getElem? (i := 42) (by decide +kernel)) (by decide +kernel)
theorem np_43 : Cond.selects y_MD_nextOfStep.cls y_MD_nextOfStep y_MD_nextOfStep ∈ nm_tb := nm_inp (List.mem_of_getElem? (i := 43) (by decide +kernel)) (by decide +kernel)
theorem np_44 : Cond.selects y_MD_visit.cls y_MD_visit y_MD_visit ∈ nm_tb := nm_inp (List.mem_of_getElem? (i := 44) (by decide +kernel)) (by decide +kernel)
theorem np_45 : Cond.selects y_MD_load.cls y_MD_load y_MD_load ∈ nm_tb := nm_inp (List.mem_of_getElem? (i := 45) (by decide +kernel)) (by decide +kernel)
theorem np_46 : Cond.selects y_MD_push.cls y_MD_push y_MD_push ∈ nm_tb := nm_inp (List.mem_of_getElem? (i := 46) (by decide +kernel)) (by decide +kernel)
theorem np_47 : Cond.selects y_MD_goesOn.cls y_MD_goesOn y_MD_goesOn ∈ nm_tb := nm_inp (List.mem_of_getElem? (i := 47) (by decide +kernel)) (by decide +kernel)
theorem np_48 : Cond.selects y_MD_choose.cls y_MD_choose y_MD_choose ∈ nm_tb := nm_inp (List.mem_of_getElem? (i := 48) (by decide +kernel)) (by decide +kernel)
theorem np_49 : Cond.selects y_MD_hold.cls y_MD_hold y_MD_hold ∈ nm_tb := nm_inp (List.mem_of_getElem? (i := 49) (by decide +kernel)) (by decide +kernel)
theorem np_50 : Cond.selects y_MD_runEnds.cls y_MD_runEnds y_MD_runEnds ∈ nm_tb := nm_inp (List.mem_of_getElem? (i := 50) (by decide +kernel)) (by decide +kernel)
theorem np_51 : Cond.selects y_MD_close.cls y_MD_close y_MD_close ∈ nm_tb := nm_inp (List.mem_of_getElem? (i := 51) (by decide +kernel)) (by decide +kernel)
theorem np_52 : Cond.selects y_MD_begin.cls y_MD_begin y_MD_begin ∈ nm_tb := nm_inp (List.mem_of_getElem? (i := 52) (by decide +kernel)) (by decide +kernel)
theorem np_53 : Cond.selects y_MD_nextOfSource.cls y_MD_nextOfSource y_MD_nextOfSource ∈ nm_tb := nm_inp (List.mem_of_getElem? (i := 53) (by decide +kernel)) (by decide +kernel)
