/-! The law's wrappers: what they answer, out of what the class's method does. -/
def w_P (P : Option Value → mm_W → mm_F → Prop) : Option Value → mm_W → mm_F → Prop := fun r w' f' => ∃ (v : Int32) (w1 : mm_W), P (some (.int v)) w1 f' ∧ r = some (.int 0) ∧ w' = mm_sj w1 152 0 v.toInt64
def w_Z (P : Option Value → mm_W → mm_F → Prop) : Option Value → mm_W → mm_F → Prop := fun r w' f' => ∃ (v : Int32) (w1 : mm_W), P (some (.int v)) w1 f' ∧ r = some (.int 0) ∧ w' = mm_sj w1 152 0 (if v = 0 then 0 else 1)
def w_ok (P : Option Value → mm_W → mm_F → Prop) : Prop := ∀ r w' f', P r w' f' → ∃ v : Int32, r = some (.int v) ∧ mm_sh w'
theorem xm_0 : "java/lang/IllegalArgumentException" ∈ xw_cls := List.mem_of_getElem? (i := 0) rfl
theorem xm_1 : "java/lang/UnsupportedOperationException" ∈ xw_cls := List.mem_of_getElem? (i := 1) rfl
theorem xm_2 : "java/lang/IndexOutOfBoundsException" ∈ xw_cls := List.mem_of_getElem? (i := 2) rfl
theorem xm_3 : "java/lang/IllegalStateException" ∈ xw_cls := List.mem_of_getElem? (i := 3) rfl
theorem xm_4 : "java/util/NoSuchElementException" ∈ xw_cls := List.mem_of_getElem? (i := 4) rfl
section WR
variable {E : mm_E} {w w1 : mm_W} {f f1 : mm_F} {x y z : Int32} {lev' kc' ks' : Nat} {P : Option Value → mm_W → mm_F → Prop}
theorem cw_table : nm_cw y_LW_table b_LW_table 4 (some .int) [(0, 9, 12, 13), (0, 9, 15, 15)] 3 := ⟨nw_0, nw_276, by decide, by decide, by decide +kernel, by decide⟩
theorem w_table_0 (hfl : E.1.flags = flags0) (hw : mm_sh w) (hc : mm_C E y_PT_table b_PT_table 2 (some .int) lev' kc' ks' [mm_rf E 1, .int x] w f P) (hlev : lev' ≤ 6) (hkc : kc' ≤ 3) (hks : ks' ≤ 20) (hP : w_ok P) : mm_CW E y_LW_table b_LW_table 4 (some .int) [(0, 9, 12, 13), (0, 9, 15, 15)] 7 3 20 [mm_rf E 1, .int x, mm_rf E 152] w f (w_P P) := by
  refine mm_startW hfl (by decide) rfl (Nat.le_of_ble_eq_true rfl) fun Γ h hX htab he => ?_
  refine mm_aload_n h d_LW_table_0 2 rfl rfl ?_
  refine mm_iconst h d_LW_table_1 rfl ?_
  refine mm_aload_n h d_LW_table_2 0 rfl rfl ?_
  refine mm_iload_n h d_LW_table_3 1 rfl rfl ?_
  refine mm_callV (k := 0) (a := 1) (q0 := _) (rest := [.int 0, mm_rf E 152]) h hc ⟨nw_279, nw_280, nw_281⟩ cm_PT_table (by omega) rfl rfl (is_PT hw) (by omega) (by omega) rfl rfl (Nat.le_of_ble_eq_true rfl) d_LW_table_4 fun r w' f' hp => ?_
  obtain ⟨v, rfl, hw'⟩ := hP r w' f' hp
  refine mm_i2l h d_LW_table_7 rfl ?_
  refine mm_last (n := 1) h (is_OT hw') (by unfold vp_in; decide) d_LW_table_8 ?_
  refine mm_goto h d_LW_table_9 (tgt := 18) rfl ?_
  refine mm_iconst h d_LW_table_18 rfl ?_
  exact mm_iret h he rfl d_LW_table_19 (by omega) (by omega) ⟨v, w', hp, rfl, rfl⟩
theorem w_table_1 (hfl : E.1.flags = flags0) (hw : mm_sh w) (hc : mm_T E y_PT_table b_PT_table 2 (some .int) lev' kc' ks' [mm_rf E 1, .int x] w f 8 w1 f1) (hlev : lev' ≤ 6) (hkc : kc' ≤ 3) (hks : ks' ≤ 20) (h0 : 0 < mm_n w1) : mm_CW E y_LW_table b_LW_table 4 (some .int) [(0, 9, 12, 13), (0, 9, 15, 15)] 7 3 20 [mm_rf E 1, .int x, mm_rf E 152] w f (mm_P (some (.int 1)) (mm_new w1 8 0) (mm_f0 w1 f1)) := by
  refine mm_startW hfl (by decide) rfl (Nat.le_of_ble_eq_true rfl) fun Γ h hX htab he => ?_
  refine mm_aload_n h d_LW_table_0 2 rfl rfl ?_
  refine mm_iconst h d_LW_table_1 rfl ?_
  refine mm_aload_n h d_LW_table_2 0 rfl rfl ?_
  refine mm_iload_n h d_LW_table_3 1 rfl rfl ?_
  refine mm_callT (k := 0) (a := 1) (q0 := _) (q1 := _) (rest := [.int 0, mm_rf E 152]) (CX := "java/lang/IllegalArgumentException") (pre := []) (x := (0, 9, 12, 13)) (rs := [(0, 9, 15, 15)]) h hX htab hc ⟨nw_279, nw_280, nw_281⟩ cm_PT_table (by omega) rfl rfl (is_PT hw) (by omega) (by omega) rfl rfl (Nat.le_of_ble_eq_true rfl) d_LW_table_4 rfl rfl xm_0 h0 ⟨nw_277, by decide, by decide, xm_0⟩ (fun q hq => by cases hq) ?_
  refine mm_astore_n h d_LW_table_12 rfl (by decide) rfl ?_
  refine mm_iconst h d_LW_table_13 rfl ?_
  exact mm_iret h he rfl d_LW_table_14 (by omega) (by omega) ⟨rfl, rfl, rfl⟩
theorem w_table_2 (hfl : E.1.flags = flags0) (hw : mm_sh w) (hc : mm_T E y_PT_table b_PT_table 2 (some .int) lev' kc' ks' [mm_rf E 1, .int x] w f 9 w1 f1) (hlev : lev' ≤ 6) (hkc : kc' ≤ 3) (hks : ks' ≤ 20) (h0 : 0 < mm_n w1) : mm_CW E y_LW_table b_LW_table 4 (some .int) [(0, 9, 12, 13), (0, 9, 15, 15)] 7 3 20 [mm_rf E 1, .int x, mm_rf E 152] w f (mm_P (some (.int 2)) (mm_new w1 9 0) (mm_f0 w1 f1)) := by
  refine mm_startW hfl (by decide) rfl (Nat.le_of_ble_eq_true rfl) fun Γ h hX htab he => ?_
  refine mm_aload_n h d_LW_table_0 2 rfl rfl ?_
  refine mm_iconst h d_LW_table_1 rfl ?_
  refine mm_aload_n h d_LW_table_2 0 rfl rfl ?_
  refine mm_iload_n h d_LW_table_3 1 rfl rfl ?_
  refine mm_callT (k := 0) (a := 1) (q0 := _) (q1 := _) (rest := [.int 0, mm_rf E 152]) (CX := "java/lang/UnsupportedOperationException") (pre := [((0, 9, 12, 13), "java/lang/IllegalArgumentException")]) (x := (0, 9, 15, 15)) (rs := []) h hX htab hc ⟨nw_279, nw_280, nw_281⟩ cm_PT_table (by omega) rfl rfl (is_PT hw) (by omega) (by omega) rfl rfl (Nat.le_of_ble_eq_true rfl) d_LW_table_4 rfl rfl xm_1 h0 ⟨nw_278, by decide, by decide, xm_1⟩ (List.forall_mem_cons.mpr ⟨⟨⟨nw_277, by decide, by decide, xm_0⟩, by decide⟩, fun _ h => absurd h List.not_mem_nil⟩) ?_
  refine mm_astore_n h d_LW_table_15 rfl (by decide) rfl ?_
  refine mm_iconst h d_LW_table_16 rfl ?_
  exact mm_iret h he rfl d_LW_table_17 (by omega) (by omega) ⟨rfl, rfl, rfl⟩
theorem cw_index : nm_cw y_LW_index b_LW_index 5 (some .int) [(0, 17, 20, 21)] 4 := ⟨nw_0, nw_375, by decide, by decide, by decide +kernel, by decide⟩
theorem w_index_0 (hfl : E.1.flags = flags0) (hw : mm_sh w) (hc : mm_C E y_PT_index b_PT_index 4 (some .boolean) lev' kc' ks' [mm_rf E 1, .int x, .int y] w f P) (hlev : lev' ≤ 6) (hkc : kc' ≤ 3) (hks : ks' ≤ 20) (hP : w_ok P) : mm_CW E y_LW_index b_LW_index 5 (some .int) [(0, 17, 20, 21)] 7 3 20 [mm_rf E 1, .int x, .int y, mm_rf E 152] w f (w_Z P) := by
  refine mm_startW hfl (by decide) rfl (Nat.le_of_ble_eq_true rfl) fun Γ h hX htab he => ?_
  refine mm_aload_n h d_LW_index_0 3 rfl rfl ?_
  refine mm_iconst h d_LW_index_1 rfl ?_
  refine mm_aload_n h d_LW_index_2 0 rfl rfl ?_
  refine mm_iload_n h d_LW_index_3 1 rfl rfl ?_
  refine mm_iload_n h d_LW_index_4 2 rfl rfl ?_
  refine mm_callV (k := 0) (a := 1) (q0 := _) (rest := [.int 0, mm_rf E 152]) h hc ⟨nw_377, nw_378, nw_379⟩ cm_PT_index (by omega) rfl rfl (is_PT hw) (by omega) (by omega) rfl rfl (Nat.le_of_ble_eq_true rfl) d_LW_index_5 fun r w' f' hp => ?_
  obtain ⟨v, rfl, hw'⟩ := hP r w' f' hp
  refine mm_if_eq h d_LW_index_8 (tgt := 15) rfl (fun q => ?_) (fun q => ?_)
  · refine mm_lconst h d_LW_index_15 rfl ?_
    refine mm_last (n := 1) h (is_OT hw') (by unfold vp_in; decide) d_LW_index_16 ?_
    refine mm_goto h d_LW_index_17 (tgt := 24) rfl ?_
    refine mm_iconst h d_LW_index_24 rfl ?_
    exact mm_iret h he rfl d_LW_index_25 (by omega) (by omega) ⟨v, w', hp, rfl, by rw [if_pos q]; rfl⟩
  · refine mm_lconst h d_LW_index_11 rfl ?_
    refine mm_goto h d_LW_index_12 (tgt := 16) rfl ?_
    refine mm_last (n := 1) h (is_OT hw') (by unfold vp_in; decide) d_LW_index_16 ?_
    refine mm_goto h d_LW_index_17 (tgt := 24) rfl ?_
    refine mm_iconst h d_LW_index_24 rfl ?_
    exact mm_iret h he rfl d_LW_index_25 (by omega) (by omega) ⟨v, w', hp, rfl, by rw [if_neg q]; rfl⟩
theorem w_index_1 (hfl : E.1.flags = flags0) (hw : mm_sh w) (hc : mm_T E y_PT_index b_PT_index 4 (some .boolean) lev' kc' ks' [mm_rf E 1, .int x, .int y] w f 10 w1 f1) (hlev : lev' ≤ 6) (hkc : kc' ≤ 3) (hks : ks' ≤ 20) (h0 : 0 < mm_n w1) : mm_CW E y_LW_index b_LW_index 5 (some .int) [(0, 17, 20, 21)] 7 3 20 [mm_rf E 1, .int x, .int y, mm_rf E 152] w f (mm_P (some (.int 1)) (mm_new w1 10 0) (mm_f0 w1 f1)) := by
  refine mm_startW hfl (by decide) rfl (Nat.le_of_ble_eq_true rfl) fun Γ h hX htab he => ?_
  refine mm_aload_n h d_LW_index_0 3 rfl rfl ?_
  refine mm_iconst h d_LW_index_1 rfl ?_
  refine mm_aload_n h d_LW_index_2 0 rfl rfl ?_
  refine mm_iload_n h d_LW_index_3 1 rfl rfl ?_
  refine mm_iload_n h d_LW_index_4 2 rfl rfl ?_
  refine mm_callT (k := 0) (a := 1) (q0 := _) (q1 := _) (rest := [.int 0, mm_rf E 152]) (CX := "java/lang/IndexOutOfBoundsException") (pre := []) (x := (0, 17, 20, 21)) (rs := []) h hX htab hc ⟨nw_377, nw_378, nw_379⟩ cm_PT_index (by omega) rfl rfl (is_PT hw) (by omega) (by omega) rfl rfl (Nat.le_of_ble_eq_true rfl) d_LW_index_5 rfl rfl xm_2 h0 ⟨nw_376, by decide, by decide, xm_2⟩ (fun q hq => by cases hq) ?_
  refine mm_astore h d_LW_index_20 (by decide) rfl ?_
  refine mm_iconst h d_LW_index_22 rfl ?_
  exact mm_iret h he rfl d_LW_index_23 (by omega) (by omega) ⟨rfl, rfl, rfl⟩
theorem cw_insert : nm_cw y_LW_insert b_LW_insert 4 (some .int) [(0, 9, 12, 21), (0, 9, 15, 26), (0, 9, 18, 15)] 3 := ⟨nw_0, nw_403, by decide, by decide, by decide +kernel, by decide⟩
theorem w_insert_0 (hfl : E.1.flags = flags0) (hw : mm_sh w) (hc : mm_C E y_PT_insert b_PT_insert 2 (some .int) lev' kc' ks' [mm_rf E 1, .int x] w f P) (hlev : lev' ≤ 6) (hkc : kc' ≤ 3) (hks : ks' ≤ 20) (hP : w_ok P) : mm_CW E y_LW_insert b_LW_insert 4 (some .int) [(0, 9, 12, 21), (0, 9, 15, 26), (0, 9, 18, 15)] 7 3 20 [mm_rf E 1, .int x, mm_rf E 152] w f (w_P P) := by
  refine mm_startW hfl (by decide) rfl (Nat.le_of_ble_eq_true rfl) fun Γ h hX htab he => ?_
  refine mm_aload_n h d_LW_insert_0 2 rfl rfl ?_
  refine mm_iconst h d_LW_insert_1 rfl ?_
  refine mm_aload_n h d_LW_insert_2 0 rfl rfl ?_
  refine mm_iload_n h d_LW_insert_3 1 rfl rfl ?_
  refine mm_callV (k := 0) (a := 1) (q0 := _) (rest := [.int 0, mm_rf E 152]) h hc ⟨nw_405, nw_406, nw_407⟩ cm_PT_insert (by omega) rfl rfl (is_PT hw) (by omega) (by omega) rfl rfl (Nat.le_of_ble_eq_true rfl) d_LW_insert_4 fun r w' f' hp => ?_
  obtain ⟨v, rfl, hw'⟩ := hP r w' f' hp
  refine mm_i2l h d_LW_insert_7 rfl ?_
  refine mm_last (n := 1) h (is_OT hw') (by unfold vp_in; decide) d_LW_insert_8 ?_
  refine mm_goto h d_LW_insert_9 (tgt := 21) rfl ?_
  refine mm_iconst h d_LW_insert_21 rfl ?_
  exact mm_iret h he rfl d_LW_insert_22 (by omega) (by omega) ⟨v, w', hp, rfl, rfl⟩
theorem w_insert_1 (hfl : E.1.flags = flags0) (hw : mm_sh w) (hc : mm_T E y_PT_insert b_PT_insert 2 (some .int) lev' kc' ks' [mm_rf E 1, .int x] w f 10 w1 f1) (hlev : lev' ≤ 6) (hkc : kc' ≤ 3) (hks : ks' ≤ 20) (h0 : 0 < mm_n w1) : mm_CW E y_LW_insert b_LW_insert 4 (some .int) [(0, 9, 12, 21), (0, 9, 15, 26), (0, 9, 18, 15)] 7 3 20 [mm_rf E 1, .int x, mm_rf E 152] w f (mm_P (some (.int 1)) (mm_new w1 10 0) (mm_f0 w1 f1)) := by
  refine mm_startW hfl (by decide) rfl (Nat.le_of_ble_eq_true rfl) fun Γ h hX htab he => ?_
  refine mm_aload_n h d_LW_insert_0 2 rfl rfl ?_
  refine mm_iconst h d_LW_insert_1 rfl ?_
  refine mm_aload_n h d_LW_insert_2 0 rfl rfl ?_
  refine mm_iload_n h d_LW_insert_3 1 rfl rfl ?_
  refine mm_callT (k := 0) (a := 1) (q0 := _) (q1 := _) (rest := [.int 0, mm_rf E 152]) (CX := "java/lang/IndexOutOfBoundsException") (pre := []) (x := (0, 9, 12, 21)) (rs := [(0, 9, 15, 26), (0, 9, 18, 15)]) h hX htab hc ⟨nw_405, nw_406, nw_407⟩ cm_PT_insert (by omega) rfl rfl (is_PT hw) (by omega) (by omega) rfl rfl (Nat.le_of_ble_eq_true rfl) d_LW_insert_4 rfl rfl xm_2 h0 ⟨nw_376, by decide, by decide, xm_2⟩ (fun q hq => by cases hq) ?_
  refine mm_astore_n h d_LW_insert_12 rfl (by decide) rfl ?_
  refine mm_iconst h d_LW_insert_13 rfl ?_
  exact mm_iret h he rfl d_LW_insert_14 (by omega) (by omega) ⟨rfl, rfl, rfl⟩
theorem w_insert_2 (hfl : E.1.flags = flags0) (hw : mm_sh w) (hc : mm_T E y_PT_insert b_PT_insert 2 (some .int) lev' kc' ks' [mm_rf E 1, .int x] w f 11 w1 f1) (hlev : lev' ≤ 6) (hkc : kc' ≤ 3) (hks : ks' ≤ 20) (h0 : 0 < mm_n w1) : mm_CW E y_LW_insert b_LW_insert 4 (some .int) [(0, 9, 12, 21), (0, 9, 15, 26), (0, 9, 18, 15)] 7 3 20 [mm_rf E 1, .int x, mm_rf E 152] w f (mm_P (some (.int 2)) (mm_new w1 11 0) (mm_f0 w1 f1)) := by
  refine mm_startW hfl (by decide) rfl (Nat.le_of_ble_eq_true rfl) fun Γ h hX htab he => ?_
  refine mm_aload_n h d_LW_insert_0 2 rfl rfl ?_
  refine mm_iconst h d_LW_insert_1 rfl ?_
  refine mm_aload_n h d_LW_insert_2 0 rfl rfl ?_
  refine mm_iload_n h d_LW_insert_3 1 rfl rfl ?_
  refine mm_callT (k := 0) (a := 1) (q0 := _) (q1 := _) (rest := [.int 0, mm_rf E 152]) (CX := "java/lang/IllegalStateException") (pre := [((0, 9, 12, 21), "java/lang/IndexOutOfBoundsException")]) (x := (0, 9, 15, 26)) (rs := [(0, 9, 18, 15)]) h hX htab hc ⟨nw_405, nw_406, nw_407⟩ cm_PT_insert (by omega) rfl rfl (is_PT hw) (by omega) (by omega) rfl rfl (Nat.le_of_ble_eq_true rfl) d_LW_insert_4 rfl rfl xm_3 h0 ⟨nw_404, by decide, by decide, xm_3⟩ (List.forall_mem_cons.mpr ⟨⟨⟨nw_376, by decide, by decide, xm_2⟩, by decide⟩, fun _ h => absurd h List.not_mem_nil⟩) ?_
  refine mm_astore_n h d_LW_insert_15 rfl (by decide) rfl ?_
  refine mm_iconst h d_LW_insert_16 rfl ?_
  exact mm_iret h he rfl d_LW_insert_17 (by omega) (by omega) ⟨rfl, rfl, rfl⟩
theorem w_insert_3 (hfl : E.1.flags = flags0) (hw : mm_sh w) (hc : mm_T E y_PT_insert b_PT_insert 2 (some .int) lev' kc' ks' [mm_rf E 1, .int x] w f 9 w1 f1) (hlev : lev' ≤ 6) (hkc : kc' ≤ 3) (hks : ks' ≤ 20) (h0 : 0 < mm_n w1) : mm_CW E y_LW_insert b_LW_insert 4 (some .int) [(0, 9, 12, 21), (0, 9, 15, 26), (0, 9, 18, 15)] 7 3 20 [mm_rf E 1, .int x, mm_rf E 152] w f (mm_P (some (.int 3)) (mm_new w1 9 0) (mm_f0 w1 f1)) := by
  refine mm_startW hfl (by decide) rfl (Nat.le_of_ble_eq_true rfl) fun Γ h hX htab he => ?_
  refine mm_aload_n h d_LW_insert_0 2 rfl rfl ?_
  refine mm_iconst h d_LW_insert_1 rfl ?_
  refine mm_aload_n h d_LW_insert_2 0 rfl rfl ?_
  refine mm_iload_n h d_LW_insert_3 1 rfl rfl ?_
  refine mm_callT (k := 0) (a := 1) (q0 := _) (q1 := _) (rest := [.int 0, mm_rf E 152]) (CX := "java/lang/UnsupportedOperationException") (pre := [((0, 9, 12, 21), "java/lang/IndexOutOfBoundsException"), ((0, 9, 15, 26), "java/lang/IllegalStateException")]) (x := (0, 9, 18, 15)) (rs := []) h hX htab hc ⟨nw_405, nw_406, nw_407⟩ cm_PT_insert (by omega) rfl rfl (is_PT hw) (by omega) (by omega) rfl rfl (Nat.le_of_ble_eq_true rfl) d_LW_insert_4 rfl rfl xm_1 h0 ⟨nw_278, by decide, by decide, xm_1⟩ (List.forall_mem_cons.mpr ⟨⟨⟨nw_376, by decide, by decide, xm_2⟩, by decide⟩, List.forall_mem_cons.mpr ⟨⟨⟨nw_404, by decide, by decide, xm_3⟩, by decide⟩, fun _ h => absurd h List.not_mem_nil⟩⟩) ?_
  refine mm_astore_n h d_LW_insert_18 rfl (by decide) rfl ?_
  refine mm_iconst h d_LW_insert_19 rfl ?_
  exact mm_iret h he rfl d_LW_insert_20 (by omega) (by omega) ⟨rfl, rfl, rfl⟩
theorem cw_delete : nm_cw y_LW_delete b_LW_delete 5 (some .int) [(0, 10, 13, 21), (0, 10, 17, 32)] 4 := ⟨nw_0, nw_457, by decide, by decide, by decide +kernel, by decide⟩
theorem w_delete_0 (hfl : E.1.flags = flags0) (hw : mm_sh w) (hc : mm_C E y_PT_delete b_PT_delete 4 (some .int) lev' kc' ks' [mm_rf E 1, .int x, .int y] w f P) (hlev : lev' ≤ 6) (hkc : kc' ≤ 3) (hks : ks' ≤ 20) (hP : w_ok P) : mm_CW E y_LW_delete b_LW_delete 5 (some .int) [(0, 10, 13, 21), (0, 10, 17, 32)] 7 3 20 [mm_rf E 1, .int x, .int y, mm_rf E 152] w f (w_P P) := by
  refine mm_startW hfl (by decide) rfl (Nat.le_of_ble_eq_true rfl) fun Γ h hX htab he => ?_
  refine mm_aload_n h d_LW_delete_0 3 rfl rfl ?_
  refine mm_iconst h d_LW_delete_1 rfl ?_
  refine mm_aload_n h d_LW_delete_2 0 rfl rfl ?_
  refine mm_iload_n h d_LW_delete_3 1 rfl rfl ?_
  refine mm_iload_n h d_LW_delete_4 2 rfl rfl ?_
  refine mm_callV (k := 0) (a := 1) (q0 := _) (rest := [.int 0, mm_rf E 152]) h hc ⟨nw_459, nw_460, nw_461⟩ cm_PT_delete (by omega) rfl rfl (is_PT hw) (by omega) (by omega) rfl rfl (Nat.le_of_ble_eq_true rfl) d_LW_delete_5 fun r w' f' hp => ?_
  obtain ⟨v, rfl, hw'⟩ := hP r w' f' hp
  refine mm_i2l h d_LW_delete_8 rfl ?_
  refine mm_last (n := 1) h (is_OT hw') (by unfold vp_in; decide) d_LW_delete_9 ?_
  refine mm_goto h d_LW_delete_10 (tgt := 21) rfl ?_
  refine mm_iconst h d_LW_delete_21 rfl ?_
  exact mm_iret h he rfl d_LW_delete_22 (by omega) (by omega) ⟨v, w', hp, rfl, rfl⟩
theorem w_delete_1 (hfl : E.1.flags = flags0) (hw : mm_sh w) (hc : mm_T E y_PT_delete b_PT_delete 4 (some .int) lev' kc' ks' [mm_rf E 1, .int x, .int y] w f 10 w1 f1) (hlev : lev' ≤ 6) (hkc : kc' ≤ 3) (hks : ks' ≤ 20) (h0 : 0 < mm_n w1) : mm_CW E y_LW_delete b_LW_delete 5 (some .int) [(0, 10, 13, 21), (0, 10, 17, 32)] 7 3 20 [mm_rf E 1, .int x, .int y, mm_rf E 152] w f (mm_P (some (.int 1)) (mm_new w1 10 0) (mm_f0 w1 f1)) := by
  refine mm_startW hfl (by decide) rfl (Nat.le_of_ble_eq_true rfl) fun Γ h hX htab he => ?_
  refine mm_aload_n h d_LW_delete_0 3 rfl rfl ?_
  refine mm_iconst h d_LW_delete_1 rfl ?_
  refine mm_aload_n h d_LW_delete_2 0 rfl rfl ?_
  refine mm_iload_n h d_LW_delete_3 1 rfl rfl ?_
  refine mm_iload_n h d_LW_delete_4 2 rfl rfl ?_
  refine mm_callT (k := 0) (a := 1) (q0 := _) (q1 := _) (rest := [.int 0, mm_rf E 152]) (CX := "java/lang/IndexOutOfBoundsException") (pre := []) (x := (0, 10, 13, 21)) (rs := [(0, 10, 17, 32)]) h hX htab hc ⟨nw_459, nw_460, nw_461⟩ cm_PT_delete (by omega) rfl rfl (is_PT hw) (by omega) (by omega) rfl rfl (Nat.le_of_ble_eq_true rfl) d_LW_delete_5 rfl rfl xm_2 h0 ⟨nw_376, by decide, by decide, xm_2⟩ (fun q hq => by cases hq) ?_
  refine mm_astore h d_LW_delete_13 (by decide) rfl ?_
  refine mm_iconst h d_LW_delete_15 rfl ?_
  exact mm_iret h he rfl d_LW_delete_16 (by omega) (by omega) ⟨rfl, rfl, rfl⟩
theorem w_delete_2 (hfl : E.1.flags = flags0) (hw : mm_sh w) (hc : mm_T E y_PT_delete b_PT_delete 4 (some .int) lev' kc' ks' [mm_rf E 1, .int x, .int y] w f 12 w1 f1) (hlev : lev' ≤ 6) (hkc : kc' ≤ 3) (hks : ks' ≤ 20) (h0 : 0 < mm_n w1) : mm_CW E y_LW_delete b_LW_delete 5 (some .int) [(0, 10, 13, 21), (0, 10, 17, 32)] 7 3 20 [mm_rf E 1, .int x, .int y, mm_rf E 152] w f (mm_P (some (.int 2)) (mm_new w1 12 0) (mm_f0 w1 f1)) := by
  refine mm_startW hfl (by decide) rfl (Nat.le_of_ble_eq_true rfl) fun Γ h hX htab he => ?_
  refine mm_aload_n h d_LW_delete_0 3 rfl rfl ?_
  refine mm_iconst h d_LW_delete_1 rfl ?_
  refine mm_aload_n h d_LW_delete_2 0 rfl rfl ?_
  refine mm_iload_n h d_LW_delete_3 1 rfl rfl ?_
  refine mm_iload_n h d_LW_delete_4 2 rfl rfl ?_
  refine mm_callT (k := 0) (a := 1) (q0 := _) (q1 := _) (rest := [.int 0, mm_rf E 152]) (CX := "java/util/NoSuchElementException") (pre := [((0, 10, 13, 21), "java/lang/IndexOutOfBoundsException")]) (x := (0, 10, 17, 32)) (rs := []) h hX htab hc ⟨nw_459, nw_460, nw_461⟩ cm_PT_delete (by omega) rfl rfl (is_PT hw) (by omega) (by omega) rfl rfl (Nat.le_of_ble_eq_true rfl) d_LW_delete_5 rfl rfl xm_4 h0 ⟨nw_458, by decide, by decide, xm_4⟩ (List.forall_mem_cons.mpr ⟨⟨⟨nw_376, by decide, by decide, xm_2⟩, by decide⟩, fun _ h => absurd h List.not_mem_nil⟩) ?_
  refine mm_astore h d_LW_delete_17 (by decide) rfl ?_
  refine mm_iconst h d_LW_delete_19 rfl ?_
  exact mm_iret h he rfl d_LW_delete_20 (by omega) (by omega) ⟨rfl, rfl, rfl⟩
theorem cw_cell : nm_cw y_LW_cell b_LW_cell 6 (some .int) [(0, 12, 15, 21), (0, 12, 19, 32)] 5 := ⟨nw_0, nw_489, by decide, by decide, by decide +kernel, by decide⟩
theorem w_cell_0 (hfl : E.1.flags = flags0) (hw : mm_sh w) (hc : mm_C E y_PT_cell b_PT_cell 5 (some .int) lev' kc' ks' [mm_rf E 1, .int x, .int y, .int z] w f P) (hlev : lev' ≤ 6) (hkc : kc' ≤ 3) (hks : ks' ≤ 20) (hP : w_ok P) : mm_CW E y_LW_cell b_LW_cell 6 (some .int) [(0, 12, 15, 21), (0, 12, 19, 32)] 7 3 20 [mm_rf E 1, .int x, .int y, .int z, mm_rf E 152] w f (w_P P) := by
  refine mm_startW hfl (by decide) rfl (Nat.le_of_ble_eq_true rfl) fun Γ h hX htab he => ?_
  refine mm_aload h d_LW_cell_0 4 rfl ?_
  refine mm_iconst h d_LW_cell_2 rfl ?_
  refine mm_aload_n h d_LW_cell_3 0 rfl rfl ?_
  refine mm_iload_n h d_LW_cell_4 1 rfl rfl ?_
  refine mm_iload_n h d_LW_cell_5 2 rfl rfl ?_
  refine mm_iload_n h d_LW_cell_6 3 rfl rfl ?_
  refine mm_callV (k := 0) (a := 1) (q0 := _) (rest := [.int 0, mm_rf E 152]) h hc ⟨nw_490, nw_491, nw_492⟩ cm_PT_cell (by omega) rfl rfl (is_PT hw) (by omega) (by omega) rfl rfl (Nat.le_of_ble_eq_true rfl) d_LW_cell_7 fun r w' f' hp => ?_
  obtain ⟨v, rfl, hw'⟩ := hP r w' f' hp
  refine mm_i2l h d_LW_cell_10 rfl ?_
  refine mm_last (n := 1) h (is_OT hw') (by unfold vp_in; decide) d_LW_cell_11 ?_
  refine mm_goto h d_LW_cell_12 (tgt := 23) rfl ?_
  refine mm_iconst h d_LW_cell_23 rfl ?_
  exact mm_iret h he rfl d_LW_cell_24 (by omega) (by omega) ⟨v, w', hp, rfl, rfl⟩
theorem w_cell_1 (hfl : E.1.flags = flags0) (hw : mm_sh w) (hc : mm_T E y_PT_cell b_PT_cell 5 (some .int) lev' kc' ks' [mm_rf E 1, .int x, .int y, .int z] w f 10 w1 f1) (hlev : lev' ≤ 6) (hkc : kc' ≤ 3) (hks : ks' ≤ 20) (h0 : 0 < mm_n w1) : mm_CW E y_LW_cell b_LW_cell 6 (some .int) [(0, 12, 15, 21), (0, 12, 19, 32)] 7 3 20 [mm_rf E 1, .int x, .int y, .int z, mm_rf E 152] w f (mm_P (some (.int 1)) (mm_new w1 10 0) (mm_f0 w1 f1)) := by
  refine mm_startW hfl (by decide) rfl (Nat.le_of_ble_eq_true rfl) fun Γ h hX htab he => ?_
  refine mm_aload h d_LW_cell_0 4 rfl ?_
  refine mm_iconst h d_LW_cell_2 rfl ?_
  refine mm_aload_n h d_LW_cell_3 0 rfl rfl ?_
  refine mm_iload_n h d_LW_cell_4 1 rfl rfl ?_
  refine mm_iload_n h d_LW_cell_5 2 rfl rfl ?_
  refine mm_iload_n h d_LW_cell_6 3 rfl rfl ?_
  refine mm_callT (k := 0) (a := 1) (q0 := _) (q1 := _) (rest := [.int 0, mm_rf E 152]) (CX := "java/lang/IndexOutOfBoundsException") (pre := []) (x := (0, 12, 15, 21)) (rs := [(0, 12, 19, 32)]) h hX htab hc ⟨nw_490, nw_491, nw_492⟩ cm_PT_cell (by omega) rfl rfl (is_PT hw) (by omega) (by omega) rfl rfl (Nat.le_of_ble_eq_true rfl) d_LW_cell_7 rfl rfl xm_2 h0 ⟨nw_376, by decide, by decide, xm_2⟩ (fun q hq => by cases hq) ?_
  refine mm_astore h d_LW_cell_15 (by decide) rfl ?_
  refine mm_iconst h d_LW_cell_17 rfl ?_
  exact mm_iret h he rfl d_LW_cell_18 (by omega) (by omega) ⟨rfl, rfl, rfl⟩
theorem w_cell_2 (hfl : E.1.flags = flags0) (hw : mm_sh w) (hc : mm_T E y_PT_cell b_PT_cell 5 (some .int) lev' kc' ks' [mm_rf E 1, .int x, .int y, .int z] w f 12 w1 f1) (hlev : lev' ≤ 6) (hkc : kc' ≤ 3) (hks : ks' ≤ 20) (h0 : 0 < mm_n w1) : mm_CW E y_LW_cell b_LW_cell 6 (some .int) [(0, 12, 15, 21), (0, 12, 19, 32)] 7 3 20 [mm_rf E 1, .int x, .int y, .int z, mm_rf E 152] w f (mm_P (some (.int 2)) (mm_new w1 12 0) (mm_f0 w1 f1)) := by
  refine mm_startW hfl (by decide) rfl (Nat.le_of_ble_eq_true rfl) fun Γ h hX htab he => ?_
  refine mm_aload h d_LW_cell_0 4 rfl ?_
  refine mm_iconst h d_LW_cell_2 rfl ?_
  refine mm_aload_n h d_LW_cell_3 0 rfl rfl ?_
  refine mm_iload_n h d_LW_cell_4 1 rfl rfl ?_
  refine mm_iload_n h d_LW_cell_5 2 rfl rfl ?_
  refine mm_iload_n h d_LW_cell_6 3 rfl rfl ?_
  refine mm_callT (k := 0) (a := 1) (q0 := _) (q1 := _) (rest := [.int 0, mm_rf E 152]) (CX := "java/util/NoSuchElementException") (pre := [((0, 12, 15, 21), "java/lang/IndexOutOfBoundsException")]) (x := (0, 12, 19, 32)) (rs := []) h hX htab hc ⟨nw_490, nw_491, nw_492⟩ cm_PT_cell (by omega) rfl rfl (is_PT hw) (by omega) (by omega) rfl rfl (Nat.le_of_ble_eq_true rfl) d_LW_cell_7 rfl rfl xm_4 h0 ⟨nw_458, by decide, by decide, xm_4⟩ (List.forall_mem_cons.mpr ⟨⟨⟨nw_376, by decide, by decide, xm_2⟩, by decide⟩, fun _ h => absurd h List.not_mem_nil⟩) ?_
  refine mm_astore h d_LW_cell_19 (by decide) rfl ?_
  refine mm_iconst h d_LW_cell_21 rfl ?_
  exact mm_iret h he rfl d_LW_cell_22 (by omega) (by omega) ⟨rfl, rfl, rfl⟩
theorem cw_keyFrom : nm_cw y_LW_keyFrom b_LW_keyFrom 5 (some .int) [(0, 10, 13, 21), (0, 10, 17, 32)] 4 := ⟨nw_0, nw_496, by decide, by decide, by decide +kernel, by decide⟩
theorem w_keyFrom_0 (hfl : E.1.flags = flags0) (hw : mm_sh w) (hc : mm_C E y_PT_keyFrom b_PT_keyFrom 4 (some .int) lev' kc' ks' [mm_rf E 1, .int x, .int y] w f P) (hlev : lev' ≤ 6) (hkc : kc' ≤ 3) (hks : ks' ≤ 20) (hP : w_ok P) : mm_CW E y_LW_keyFrom b_LW_keyFrom 5 (some .int) [(0, 10, 13, 21), (0, 10, 17, 32)] 7 3 20 [mm_rf E 1, .int x, .int y, mm_rf E 152] w f (w_P P) := by
  refine mm_startW hfl (by decide) rfl (Nat.le_of_ble_eq_true rfl) fun Γ h hX htab he => ?_
  refine mm_aload_n h d_LW_keyFrom_0 3 rfl rfl ?_
  refine mm_iconst h d_LW_keyFrom_1 rfl ?_
  refine mm_aload_n h d_LW_keyFrom_2 0 rfl rfl ?_
  refine mm_iload_n h d_LW_keyFrom_3 1 rfl rfl ?_
  refine mm_iload_n h d_LW_keyFrom_4 2 rfl rfl ?_
  refine mm_callV (k := 0) (a := 1) (q0 := _) (rest := [.int 0, mm_rf E 152]) h hc ⟨nw_497, nw_498, nw_499⟩ cm_PT_keyFrom (by omega) rfl rfl (is_PT hw) (by omega) (by omega) rfl rfl (Nat.le_of_ble_eq_true rfl) d_LW_keyFrom_5 fun r w' f' hp => ?_
  obtain ⟨v, rfl, hw'⟩ := hP r w' f' hp
  refine mm_i2l h d_LW_keyFrom_8 rfl ?_
  refine mm_last (n := 1) h (is_OT hw') (by unfold vp_in; decide) d_LW_keyFrom_9 ?_
  refine mm_goto h d_LW_keyFrom_10 (tgt := 21) rfl ?_
  refine mm_iconst h d_LW_keyFrom_21 rfl ?_
  exact mm_iret h he rfl d_LW_keyFrom_22 (by omega) (by omega) ⟨v, w', hp, rfl, rfl⟩
theorem w_keyFrom_1 (hfl : E.1.flags = flags0) (hw : mm_sh w) (hc : mm_T E y_PT_keyFrom b_PT_keyFrom 4 (some .int) lev' kc' ks' [mm_rf E 1, .int x, .int y] w f 10 w1 f1) (hlev : lev' ≤ 6) (hkc : kc' ≤ 3) (hks : ks' ≤ 20) (h0 : 0 < mm_n w1) : mm_CW E y_LW_keyFrom b_LW_keyFrom 5 (some .int) [(0, 10, 13, 21), (0, 10, 17, 32)] 7 3 20 [mm_rf E 1, .int x, .int y, mm_rf E 152] w f (mm_P (some (.int 1)) (mm_new w1 10 0) (mm_f0 w1 f1)) := by
  refine mm_startW hfl (by decide) rfl (Nat.le_of_ble_eq_true rfl) fun Γ h hX htab he => ?_
  refine mm_aload_n h d_LW_keyFrom_0 3 rfl rfl ?_
  refine mm_iconst h d_LW_keyFrom_1 rfl ?_
  refine mm_aload_n h d_LW_keyFrom_2 0 rfl rfl ?_
  refine mm_iload_n h d_LW_keyFrom_3 1 rfl rfl ?_
  refine mm_iload_n h d_LW_keyFrom_4 2 rfl rfl ?_
  refine mm_callT (k := 0) (a := 1) (q0 := _) (q1 := _) (rest := [.int 0, mm_rf E 152]) (CX := "java/lang/IndexOutOfBoundsException") (pre := []) (x := (0, 10, 13, 21)) (rs := [(0, 10, 17, 32)]) h hX htab hc ⟨nw_497, nw_498, nw_499⟩ cm_PT_keyFrom (by omega) rfl rfl (is_PT hw) (by omega) (by omega) rfl rfl (Nat.le_of_ble_eq_true rfl) d_LW_keyFrom_5 rfl rfl xm_2 h0 ⟨nw_376, by decide, by decide, xm_2⟩ (fun q hq => by cases hq) ?_
  refine mm_astore h d_LW_keyFrom_13 (by decide) rfl ?_
  refine mm_iconst h d_LW_keyFrom_15 rfl ?_
  exact mm_iret h he rfl d_LW_keyFrom_16 (by omega) (by omega) ⟨rfl, rfl, rfl⟩
theorem w_keyFrom_2 (hfl : E.1.flags = flags0) (hw : mm_sh w) (hc : mm_T E y_PT_keyFrom b_PT_keyFrom 4 (some .int) lev' kc' ks' [mm_rf E 1, .int x, .int y] w f 12 w1 f1) (hlev : lev' ≤ 6) (hkc : kc' ≤ 3) (hks : ks' ≤ 20) (h0 : 0 < mm_n w1) : mm_CW E y_LW_keyFrom b_LW_keyFrom 5 (some .int) [(0, 10, 13, 21), (0, 10, 17, 32)] 7 3 20 [mm_rf E 1, .int x, .int y, mm_rf E 152] w f (mm_P (some (.int 2)) (mm_new w1 12 0) (mm_f0 w1 f1)) := by
  refine mm_startW hfl (by decide) rfl (Nat.le_of_ble_eq_true rfl) fun Γ h hX htab he => ?_
  refine mm_aload_n h d_LW_keyFrom_0 3 rfl rfl ?_
  refine mm_iconst h d_LW_keyFrom_1 rfl ?_
  refine mm_aload_n h d_LW_keyFrom_2 0 rfl rfl ?_
  refine mm_iload_n h d_LW_keyFrom_3 1 rfl rfl ?_
  refine mm_iload_n h d_LW_keyFrom_4 2 rfl rfl ?_
  refine mm_callT (k := 0) (a := 1) (q0 := _) (q1 := _) (rest := [.int 0, mm_rf E 152]) (CX := "java/util/NoSuchElementException") (pre := [((0, 10, 13, 21), "java/lang/IndexOutOfBoundsException")]) (x := (0, 10, 17, 32)) (rs := []) h hX htab hc ⟨nw_497, nw_498, nw_499⟩ cm_PT_keyFrom (by omega) rfl rfl (is_PT hw) (by omega) (by omega) rfl rfl (Nat.le_of_ble_eq_true rfl) d_LW_keyFrom_5 rfl rfl xm_4 h0 ⟨nw_458, by decide, by decide, xm_4⟩ (List.forall_mem_cons.mpr ⟨⟨⟨nw_376, by decide, by decide, xm_2⟩, by decide⟩, fun _ h => absurd h List.not_mem_nil⟩) ?_
  refine mm_astore h d_LW_keyFrom_17 (by decide) rfl ?_
  refine mm_iconst h d_LW_keyFrom_19 rfl ?_
  exact mm_iret h he rfl d_LW_keyFrom_20 (by omega) (by omega) ⟨rfl, rfl, rfl⟩
theorem cw_run : nm_cw y_LW_run b_LW_run 4 (some .int) [(0, 9, 12, 13), (0, 9, 15, 26), (0, 9, 18, 15)] 3 := ⟨nw_0, nw_506, by decide, by decide, by decide +kernel, by decide⟩
theorem w_run_0 (hfl : E.1.flags = flags0) (hw : mm_sh w) (hc : mm_C E y_PT_run b_PT_run 4 (some .int) lev' kc' ks' [mm_rf E 1, .int x] w f P) (hlev : lev' ≤ 6) (hkc : kc' ≤ 3) (hks : ks' ≤ 20) (hP : w_ok P) : mm_CW E y_LW_run b_LW_run 4 (some .int) [(0, 9, 12, 13), (0, 9, 15, 26), (0, 9, 18, 15)] 7 3 20 [mm_rf E 1, .int x, mm_rf E 152] w f (w_P P) := by
  refine mm_startW hfl (by decide) rfl (Nat.le_of_ble_eq_true rfl) fun Γ h hX htab he => ?_
  refine mm_aload_n h d_LW_run_0 2 rfl rfl ?_
  refine mm_iconst h d_LW_run_1 rfl ?_
  refine mm_aload_n h d_LW_run_2 0 rfl rfl ?_
  refine mm_iload_n h d_LW_run_3 1 rfl rfl ?_
  refine mm_callV (k := 0) (a := 1) (q0 := _) (rest := [.int 0, mm_rf E 152]) h hc ⟨nw_507, nw_508, nw_509⟩ cm_PT_run (by omega) rfl rfl (is_PT hw) (by omega) (by omega) rfl rfl (Nat.le_of_ble_eq_true rfl) d_LW_run_4 fun r w' f' hp => ?_
  obtain ⟨v, rfl, hw'⟩ := hP r w' f' hp
  refine mm_i2l h d_LW_run_7 rfl ?_
  refine mm_last (n := 1) h (is_OT hw') (by unfold vp_in; decide) d_LW_run_8 ?_
  refine mm_goto h d_LW_run_9 (tgt := 21) rfl ?_
  refine mm_iconst h d_LW_run_21 rfl ?_
  exact mm_iret h he rfl d_LW_run_22 (by omega) (by omega) ⟨v, w', hp, rfl, rfl⟩
theorem w_run_1 (hfl : E.1.flags = flags0) (hw : mm_sh w) (hc : mm_T E y_PT_run b_PT_run 4 (some .int) lev' kc' ks' [mm_rf E 1, .int x] w f 8 w1 f1) (hlev : lev' ≤ 6) (hkc : kc' ≤ 3) (hks : ks' ≤ 20) (h0 : 0 < mm_n w1) : mm_CW E y_LW_run b_LW_run 4 (some .int) [(0, 9, 12, 13), (0, 9, 15, 26), (0, 9, 18, 15)] 7 3 20 [mm_rf E 1, .int x, mm_rf E 152] w f (mm_P (some (.int 1)) (mm_new w1 8 0) (mm_f0 w1 f1)) := by
  refine mm_startW hfl (by decide) rfl (Nat.le_of_ble_eq_true rfl) fun Γ h hX htab he => ?_
  refine mm_aload_n h d_LW_run_0 2 rfl rfl ?_
  refine mm_iconst h d_LW_run_1 rfl ?_
  refine mm_aload_n h d_LW_run_2 0 rfl rfl ?_
  refine mm_iload_n h d_LW_run_3 1 rfl rfl ?_
  refine mm_callT (k := 0) (a := 1) (q0 := _) (q1 := _) (rest := [.int 0, mm_rf E 152]) (CX := "java/lang/IllegalArgumentException") (pre := []) (x := (0, 9, 12, 13)) (rs := [(0, 9, 15, 26), (0, 9, 18, 15)]) h hX htab hc ⟨nw_507, nw_508, nw_509⟩ cm_PT_run (by omega) rfl rfl (is_PT hw) (by omega) (by omega) rfl rfl (Nat.le_of_ble_eq_true rfl) d_LW_run_4 rfl rfl xm_0 h0 ⟨nw_277, by decide, by decide, xm_0⟩ (fun q hq => by cases hq) ?_
  refine mm_astore_n h d_LW_run_12 rfl (by decide) rfl ?_
  refine mm_iconst h d_LW_run_13 rfl ?_
  exact mm_iret h he rfl d_LW_run_14 (by omega) (by omega) ⟨rfl, rfl, rfl⟩
theorem w_run_2 (hfl : E.1.flags = flags0) (hw : mm_sh w) (hc : mm_T E y_PT_run b_PT_run 4 (some .int) lev' kc' ks' [mm_rf E 1, .int x] w f 11 w1 f1) (hlev : lev' ≤ 6) (hkc : kc' ≤ 3) (hks : ks' ≤ 20) (h0 : 0 < mm_n w1) : mm_CW E y_LW_run b_LW_run 4 (some .int) [(0, 9, 12, 13), (0, 9, 15, 26), (0, 9, 18, 15)] 7 3 20 [mm_rf E 1, .int x, mm_rf E 152] w f (mm_P (some (.int 2)) (mm_new w1 11 0) (mm_f0 w1 f1)) := by
  refine mm_startW hfl (by decide) rfl (Nat.le_of_ble_eq_true rfl) fun Γ h hX htab he => ?_
  refine mm_aload_n h d_LW_run_0 2 rfl rfl ?_
  refine mm_iconst h d_LW_run_1 rfl ?_
  refine mm_aload_n h d_LW_run_2 0 rfl rfl ?_
  refine mm_iload_n h d_LW_run_3 1 rfl rfl ?_
  refine mm_callT (k := 0) (a := 1) (q0 := _) (q1 := _) (rest := [.int 0, mm_rf E 152]) (CX := "java/lang/IllegalStateException") (pre := [((0, 9, 12, 13), "java/lang/IllegalArgumentException")]) (x := (0, 9, 15, 26)) (rs := [(0, 9, 18, 15)]) h hX htab hc ⟨nw_507, nw_508, nw_509⟩ cm_PT_run (by omega) rfl rfl (is_PT hw) (by omega) (by omega) rfl rfl (Nat.le_of_ble_eq_true rfl) d_LW_run_4 rfl rfl xm_3 h0 ⟨nw_404, by decide, by decide, xm_3⟩ (List.forall_mem_cons.mpr ⟨⟨⟨nw_277, by decide, by decide, xm_0⟩, by decide⟩, fun _ h => absurd h List.not_mem_nil⟩) ?_
  refine mm_astore_n h d_LW_run_15 rfl (by decide) rfl ?_
  refine mm_iconst h d_LW_run_16 rfl ?_
  exact mm_iret h he rfl d_LW_run_17 (by omega) (by omega) ⟨rfl, rfl, rfl⟩
theorem w_run_3 (hfl : E.1.flags = flags0) (hw : mm_sh w) (hc : mm_T E y_PT_run b_PT_run 4 (some .int) lev' kc' ks' [mm_rf E 1, .int x] w f 9 w1 f1) (hlev : lev' ≤ 6) (hkc : kc' ≤ 3) (hks : ks' ≤ 20) (h0 : 0 < mm_n w1) : mm_CW E y_LW_run b_LW_run 4 (some .int) [(0, 9, 12, 13), (0, 9, 15, 26), (0, 9, 18, 15)] 7 3 20 [mm_rf E 1, .int x, mm_rf E 152] w f (mm_P (some (.int 3)) (mm_new w1 9 0) (mm_f0 w1 f1)) := by
  refine mm_startW hfl (by decide) rfl (Nat.le_of_ble_eq_true rfl) fun Γ h hX htab he => ?_
  refine mm_aload_n h d_LW_run_0 2 rfl rfl ?_
  refine mm_iconst h d_LW_run_1 rfl ?_
  refine mm_aload_n h d_LW_run_2 0 rfl rfl ?_
  refine mm_iload_n h d_LW_run_3 1 rfl rfl ?_
  refine mm_callT (k := 0) (a := 1) (q0 := _) (q1 := _) (rest := [.int 0, mm_rf E 152]) (CX := "java/lang/UnsupportedOperationException") (pre := [((0, 9, 12, 13), "java/lang/IllegalArgumentException"), ((0, 9, 15, 26), "java/lang/IllegalStateException")]) (x := (0, 9, 18, 15)) (rs := []) h hX htab hc ⟨nw_507, nw_508, nw_509⟩ cm_PT_run (by omega) rfl rfl (is_PT hw) (by omega) (by omega) rfl rfl (Nat.le_of_ble_eq_true rfl) d_LW_run_4 rfl rfl xm_1 h0 ⟨nw_278, by decide, by decide, xm_1⟩ (List.forall_mem_cons.mpr ⟨⟨⟨nw_277, by decide, by decide, xm_0⟩, by decide⟩, List.forall_mem_cons.mpr ⟨⟨⟨nw_404, by decide, by decide, xm_3⟩, by decide⟩, fun _ h => absurd h List.not_mem_nil⟩⟩) ?_
  refine mm_astore_n h d_LW_run_18 rfl (by decide) rfl ?_
  refine mm_iconst h d_LW_run_19 rfl ?_
  exact mm_iret h he rfl d_LW_run_20 (by omega) (by omega) ⟨rfl, rfl, rfl⟩
end WR
