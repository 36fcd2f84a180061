/-! Segments. -/
theorem d_PT_table_0 : decode b_PT_table 0 = .ok (.iload_n 1, 1) := by decide +kernel
theorem d_PT_table_1 : decode b_PT_table 1 = .ok (.iconst (1), 1) := by decide +kernel
theorem d_PT_table_2 : decode b_PT_table 2 = .ok (.if_icmp .lt (8), 3) := by decide +kernel
theorem d_PT_table_5 : decode b_PT_table 5 = .ok (.iload_n 1, 1) := by decide +kernel
theorem d_PT_table_6 : decode b_PT_table 6 = .ok (.iconst (4), 1) := by decide +kernel
theorem d_PT_table_7 : decode b_PT_table 7 = .ok (.if_icmp .le (13), 3) := by decide +kernel
theorem d_PT_table_10 : decode b_PT_table 10 = .ok (.new 34, 3) := by decide +kernel
theorem d_PT_table_13 : decode b_PT_table 13 = .ok (.dup, 1) := by decide +kernel
theorem d_PT_table_14 : decode b_PT_table 14 = .ok (.ldc 36, 2) := by decide +kernel
theorem d_PT_table_16 : decode b_PT_table 16 = .ok (.invokespecial 38, 3) := by decide +kernel
theorem d_PT_table_19 : decode b_PT_table 19 = .ok (.athrow, 1) := by decide +kernel
theorem d_PT_table_20 : decode b_PT_table 20 = .ok (.aload_n 0, 1) := by decide +kernel
theorem d_PT_table_21 : decode b_PT_table 21 = .ok (.getfield 12, 3) := by decide +kernel
theorem d_PT_table_24 : decode b_PT_table 24 = .ok (.getfield 41, 3) := by decide +kernel
theorem d_PT_table_27 : decode b_PT_table 27 = .ok (.iconst (4), 1) := by decide +kernel
theorem d_PT_table_28 : decode b_PT_table 28 = .ok (.if_icmp .lt (13), 3) := by decide +kernel
theorem d_PT_table_31 : decode b_PT_table 31 = .ok (.new 45, 3) := by decide +kernel
theorem d_PT_table_34 : decode b_PT_table 34 = .ok (.dup, 1) := by decide +kernel
theorem d_PT_table_35 : decode b_PT_table 35 = .ok (.ldc 47, 2) := by decide +kernel
theorem d_PT_table_37 : decode b_PT_table 37 = .ok (.invokespecial 49, 3) := by decide +kernel
theorem d_PT_table_40 : decode b_PT_table 40 = .ok (.athrow, 1) := by decide +kernel
theorem d_PT_table_41 : decode b_PT_table 41 = .ok (.aload_n 0, 1) := by decide +kernel
theorem d_PT_table_42 : decode b_PT_table 42 = .ok (.getfield 12, 3) := by decide +kernel
theorem d_PT_table_45 : decode b_PT_table 45 = .ok (.iload_n 1, 1) := by decide +kernel
theorem d_PT_table_46 : decode b_PT_table 46 = .ok (.invokevirtual 50, 3) := by decide +kernel
theorem d_PT_table_49 : decode b_PT_table 49 = .ok (.ireturn, 1) := by decide +kernel
theorem s_PT_table_0 {E : mm_E} {Γ : mm_G} {lev kc ks ca sa : Nat} {w : mm_W} {f : mm_F} (h : mm_ok E Γ b_PT_table 2 "PlannedTables" lev kc ks) (hw : mm_sh w) {x1 : Int32} (k0 : x1 < 1 → mm_go E Γ 2 10 [(0, mm_rf E 1), (1, .int x1)] [] w f ca sa) {vl0 vc0 vs0 : Nat} {P0 : Option Value → mm_W → mm_F → Prop} (hl0 : vl0 < lev) (hu0 : ca + vc0 ≤ kc) (hz0 : sa + vs0 ≤ ks) (m1 : ¬ x1 < 1 → x1 ≤ 4 → (f 2 1) < 4 → mm_C E y_TS_make b_TS_make 3 (some .int) vl0 vc0 vs0 [mm_rf E 2, .int x1] w f P0) (k2 : ¬ x1 < 1 → x1 ≤ 4 → (f 2 1) < 4 → ∀ (r : Option Value) (w1 : mm_W) (f1 : mm_F), P0 r w1 f1 → mm_go E Γ 2 49 [(0, mm_rf E 1), (1, .int x1)] (r.toList ++ []) w1 f1 (ca + vc0) (sa + vs0)) (k3 : ¬ x1 < 1 → x1 ≤ 4 → ¬ (f 2 1) < 4 → mm_go E Γ 2 31 [(0, mm_rf E 1), (1, .int x1)] [] w f ca sa) (k4 : ¬ x1 < 1 → ¬ x1 ≤ 4 → mm_go E Γ 2 10 [(0, mm_rf E 1), (1, .int x1)] [] w f ca sa) : mm_go E Γ 2 0 [(0, mm_rf E 1), (1, .int x1)] [] w f ca sa := by
  refine mm_iload_n h d_PT_table_0 1 rfl rfl ?_
  refine mm_iconst (v := 1) h d_PT_table_1 (by decide) ?_
  refine mm_icmp_lt h d_PT_table_2 (tgt := 10) (by decide) (fun c1 => ?_) (fun c1 => ?_)
  · skip
    exact (k0 c1)
  · skip
    refine mm_iload_n h d_PT_table_5 1 rfl rfl ?_
    refine mm_iconst (v := 4) h d_PT_table_6 (by decide) ?_
    refine mm_icmp_le h d_PT_table_7 (tgt := 20) (by decide) (fun c2 => ?_) (fun c2 => ?_)
    · skip
      refine mm_aload_n h d_PT_table_20 0 rfl rfl ?_
      refine mm_getr h fl_PT_12 rfl (is_PT hw) (rf_PT_tables hw) (is_TS hw).1 d_PT_table_21 ?_
      refine mm_geti h fl_PT_41 rfl (is_TS hw) d_PT_table_24 ?_
      refine mm_iconst (v := 4) h d_PT_table_27 (by decide) ?_
      refine mm_icmp_lt h d_PT_table_28 (tgt := 41) (by decide) (fun c3 => ?_) (fun c3 => ?_)
      · skip
        refine mm_aload_n h d_PT_table_41 0 rfl rfl ?_
        refine mm_getr h fl_PT_12 rfl (is_PT hw) (rf_PT_tables hw) (is_TS hw).1 d_PT_table_42 ?_
        refine mm_iload_n h d_PT_table_45 1 rfl rfl ?_
        exact mm_callV (As := [.int x1]) (rest := []) h (m1 c1 c2 c3) cv_PT_50 cm_TS_make hl0 (q0 := _) rfl rfl (is_TS hw) hu0 hz0 rfl rfl (Nat.le_of_ble_eq_true rfl) d_PT_table_46 (fun r w1 f1 hp => (k2 c1 c2 c3) r w1 f1 hp)
      · skip
        exact (k3 c1 c2 c3)
    · skip
      exact (k4 c1 c2)
theorem s_PT_table_49 {E : mm_E} {Γ : mm_G} {lev kc ks ca sa : Nat} {w : mm_W} {f : mm_F} {Post : Option Value → mm_W → mm_F → Prop} (h : mm_ok E Γ b_PT_table 2 "PlannedTables" lev kc ks) (he : mm_end E Γ (some .int) kc ks Post y_PT_table.name) (hca : ca ≤ kc) (hsa : sa ≤ ks) (hw : mm_sh w) {x1 : Int32} {xk0 : Int32} (k0 : Post (some (.int xk0)) w f) : mm_go E Γ 2 49 [(0, mm_rf E 1), (1, .int x1)] [.int xk0] w f ca sa := by
  exact mm_iret h he rfl d_PT_table_49 hca hsa k0
theorem d_PT_index_0 : decode b_PT_index 0 = .ok (.aload_n 0, 1) := by decide +kernel
theorem d_PT_index_1 : decode b_PT_index 1 = .ok (.getfield 12, 3) := by decide +kernel
theorem d_PT_index_4 : decode b_PT_index 4 = .ok (.iload_n 1, 1) := by decide +kernel
theorem d_PT_index_5 : decode b_PT_index 5 = .ok (.invokevirtual 54, 3) := by decide +kernel
theorem d_PT_index_8 : decode b_PT_index 8 = .ok (.ifCond .eq (19), 3) := by decide +kernel
theorem d_PT_index_11 : decode b_PT_index 11 = .ok (.aload_n 0, 1) := by decide +kernel
theorem d_PT_index_12 : decode b_PT_index 12 = .ok (.getfield 12, 3) := by decide +kernel
theorem d_PT_index_15 : decode b_PT_index 15 = .ok (.getfield 58, 3) := by decide +kernel
theorem d_PT_index_18 : decode b_PT_index 18 = .ok (.iload_n 1, 1) := by decide +kernel
theorem d_PT_index_19 : decode b_PT_index 19 = .ok (.aaload, 1) := by decide +kernel
theorem d_PT_index_20 : decode b_PT_index 20 = .ok (.iload_n 2, 1) := by decide +kernel
theorem d_PT_index_21 : decode b_PT_index 21 = .ok (.invokevirtual 62, 3) := by decide +kernel
theorem d_PT_index_24 : decode b_PT_index 24 = .ok (.ifCond .ne (13), 3) := by decide +kernel
theorem d_PT_index_27 : decode b_PT_index 27 = .ok (.new 67, 3) := by decide +kernel
theorem d_PT_index_30 : decode b_PT_index 30 = .ok (.dup, 1) := by decide +kernel
theorem d_PT_index_31 : decode b_PT_index 31 = .ok (.ldc 69, 2) := by decide +kernel
theorem d_PT_index_33 : decode b_PT_index 33 = .ok (.invokespecial 71, 3) := by decide +kernel
theorem d_PT_index_36 : decode b_PT_index 36 = .ok (.athrow, 1) := by decide +kernel
theorem d_PT_index_37 : decode b_PT_index 37 = .ok (.aload_n 0, 1) := by decide +kernel
theorem d_PT_index_38 : decode b_PT_index 38 = .ok (.getfield 12, 3) := by decide +kernel
theorem d_PT_index_41 : decode b_PT_index 41 = .ok (.getfield 58, 3) := by decide +kernel
theorem d_PT_index_44 : decode b_PT_index 44 = .ok (.iload_n 1, 1) := by decide +kernel
theorem d_PT_index_45 : decode b_PT_index 45 = .ok (.aaload, 1) := by decide +kernel
theorem d_PT_index_46 : decode b_PT_index 46 = .ok (.getfield 72, 3) := by decide +kernel
theorem d_PT_index_49 : decode b_PT_index 49 = .ok (.iload_n 2, 1) := by decide +kernel
theorem d_PT_index_50 : decode b_PT_index 50 = .ok (.baload, 1) := by decide +kernel
theorem d_PT_index_51 : decode b_PT_index 51 = .ok (.istore_n 3, 1) := by decide +kernel
theorem d_PT_index_52 : decode b_PT_index 52 = .ok (.aload_n 0, 1) := by decide +kernel
theorem d_PT_index_53 : decode b_PT_index 53 = .ok (.getfield 12, 3) := by decide +kernel
theorem d_PT_index_56 : decode b_PT_index 56 = .ok (.getfield 58, 3) := by decide +kernel
theorem d_PT_index_59 : decode b_PT_index 59 = .ok (.iload_n 1, 1) := by decide +kernel
theorem d_PT_index_60 : decode b_PT_index 60 = .ok (.aaload, 1) := by decide +kernel
theorem d_PT_index_61 : decode b_PT_index 61 = .ok (.getfield 72, 3) := by decide +kernel
theorem d_PT_index_64 : decode b_PT_index 64 = .ok (.iload_n 2, 1) := by decide +kernel
theorem d_PT_index_65 : decode b_PT_index 65 = .ok (.iconst (1), 1) := by decide +kernel
theorem d_PT_index_66 : decode b_PT_index 66 = .ok (.bastore, 1) := by decide +kernel
theorem d_PT_index_67 : decode b_PT_index 67 = .ok (.iload_n 3, 1) := by decide +kernel
theorem d_PT_index_68 : decode b_PT_index 68 = .ok (.ifCond .ne (7), 3) := by decide +kernel
theorem d_PT_index_71 : decode b_PT_index 71 = .ok (.iconst (1), 1) := by decide +kernel
theorem d_PT_index_72 : decode b_PT_index 72 = .ok (.goto (4), 3) := by decide +kernel
theorem d_PT_index_75 : decode b_PT_index 75 = .ok (.iconst (0), 1) := by decide +kernel
theorem d_PT_index_76 : decode b_PT_index 76 = .ok (.ireturn, 1) := by decide +kernel
theorem s_PT_index_0 {E : mm_E} {Γ : mm_G} {lev kc ks ca sa : Nat} {w : mm_W} {f : mm_F} (h : mm_ok E Γ b_PT_index 4 "PlannedTables" lev kc ks) (hw : mm_sh w) {x1 : Int32} {x2 : Int32} {vl0 vc0 vs0 : Nat} {P0 : Option Value → mm_W → mm_F → Prop} (hl0 : vl0 < lev) (hu0 : ca + vc0 ≤ kc) (hz0 : sa + vs0 ≤ ks) (m0 : mm_C E y_TS_has b_TS_has 2 (some .boolean) vl0 vc0 vs0 [mm_rf E 2, .int x1] w f P0) (k1 : ∀ (r : Option Value) (w1 : mm_W) (f1 : mm_F), P0 r w1 f1 → mm_go E Γ 4 8 [(0, mm_rf E 1), (1, .int x1), (2, .int x2)] (r.toList ++ []) w1 f1 (ca + vc0) (sa + vs0)) : mm_go E Γ 4 0 [(0, mm_rf E 1), (1, .int x1), (2, .int x2)] [] w f ca sa := by
  refine mm_aload_n h d_PT_index_0 0 rfl rfl ?_
  refine mm_getr h fl_PT_12 rfl (is_PT hw) (rf_PT_tables hw) (is_TS hw).1 d_PT_index_1 ?_
  refine mm_iload_n h d_PT_index_4 1 rfl rfl ?_
  exact mm_callV (As := [.int x1]) (rest := []) h m0 cv_PT_54 cm_TS_has hl0 (q0 := _) rfl rfl (is_TS hw) hu0 hz0 rfl rfl (Nat.le_of_ble_eq_true rfl) d_PT_index_5 (fun r w1 f1 hp => k1 r w1 f1 hp)
theorem s_PT_index_8 {E : mm_E} {Γ : mm_G} {lev kc ks ca sa : Nat} {w : mm_W} {f : mm_F} (h : mm_ok E Γ b_PT_index 4 "PlannedTables" lev kc ks) (hw : mm_sh w) {x1 : Int32} {x2 : Int32} {xk0 : Int32} (k0 : xk0 = 0 → mm_go E Γ 4 27 [(0, mm_rf E 1), (1, .int x1), (2, .int x2)] [] w f ca sa) (b1 : ¬ xk0 = 0 → vp_in x1 4) {vl0 vc0 vs0 : Nat} {P0 : Option Value → mm_W → mm_F → Prop} (hl0 : vl0 < lev) (hu0 : ca + vc0 ≤ kc) (hz0 : sa + vs0 ≤ ks) (m2 : ¬ xk0 = 0 → mm_C E y_TB_hasColumn b_TB_hasColumn 2 (some .boolean) vl0 vc0 vs0 [mm_rf E (4 + 12 * (x1).toNatClampNeg), .int x2] w f P0) (k3 : ¬ xk0 = 0 → ∀ (r : Option Value) (w1 : mm_W) (f1 : mm_F), P0 r w1 f1 → mm_go E Γ 4 24 [(0, mm_rf E 1), (1, .int x1), (2, .int x2)] (r.toList ++ []) w1 f1 (ca + vc0) (sa + vs0)) : mm_go E Γ 4 8 [(0, mm_rf E 1), (1, .int x1), (2, .int x2)] [.int xk0] w f ca sa := by
  refine mm_if_eq h d_PT_index_8 (tgt := 27) (by decide) (fun c1 => ?_) (fun c1 => ?_)
  · skip
    exact (k0 c1)
  · skip
    refine mm_aload_n h d_PT_index_11 0 rfl rfl ?_
    refine mm_getr h fl_PT_12 rfl (is_PT hw) (rf_PT_tables hw) (is_TS hw).1 d_PT_index_12 ?_
    refine mm_getr h fl_PT_58 rfl (is_TS hw) (rf_TS_all hw) (is_TA hw).1.1 d_PT_index_15 ?_
    refine mm_iload_n h d_PT_index_18 1 rfl rfl ?_
    refine mm_aald h 4 rfl rfl rfl (fun _ => rfl) (is_TA hw) (b1 c1) (ra_TA hw (mm_in_lt (b1 c1))) (is_T hw (mm_in_lt (b1 c1))).1 d_PT_index_19 ?_
    refine mm_iload_n h d_PT_index_20 2 rfl rfl ?_
    exact mm_callV (As := [.int x2]) (rest := []) h (m2 c1) cv_PT_62 cm_TB_hasColumn hl0 (q0 := _) rfl rfl (is_T hw (mm_in_lt (b1 c1))) hu0 hz0 rfl rfl (Nat.le_of_ble_eq_true rfl) d_PT_index_21 (fun r w1 f1 hp => (k3 c1) r w1 f1 hp)
theorem s_PT_index_24 {E : mm_E} {Γ : mm_G} {lev kc ks ca sa : Nat} {w : mm_W} {f : mm_F} (h : mm_ok E Γ b_PT_index 4 "PlannedTables" lev kc ks) (hw : mm_sh w) {x1 : Int32} {x2 : Int32} {xk0 : Int32} (b0 : ¬ xk0 = 0 → vp_in x1 4) (b1 : ¬ xk0 = 0 → vp_in x2 4) (k2 : ¬ xk0 = 0 → ¬ (f (5 + 12 * (x1).toNatClampNeg) (x2).toNatClampNeg) = 0 → mm_go E Γ 4 76 [(0, mm_rf E 1), (1, .int x1), (2, .int x2), (3, .int (f (5 + 12 * (x1).toNatClampNeg) (x2).toNatClampNeg))] [.int 0] w (mm_up f (5 + 12 * (x1).toNatClampNeg) (x2).toNatClampNeg 1) ca sa) (k3 : ¬ xk0 = 0 → (f (5 + 12 * (x1).toNatClampNeg) (x2).toNatClampNeg) = 0 → mm_go E Γ 4 76 [(0, mm_rf E 1), (1, .int x1), (2, .int x2), (3, .int (f (5 + 12 * (x1).toNatClampNeg) (x2).toNatClampNeg))] [.int 1] w (mm_up f (5 + 12 * (x1).toNatClampNeg) (x2).toNatClampNeg 1) ca sa) (k4 : xk0 = 0 → mm_go E Γ 4 27 [(0, mm_rf E 1), (1, .int x1), (2, .int x2)] [] w f ca sa) : mm_go E Γ 4 24 [(0, mm_rf E 1), (1, .int x1), (2, .int x2)] [.int xk0] w f ca sa := by
  refine mm_if_ne h d_PT_index_24 (tgt := 37) (by decide) (fun c1 => ?_) (fun c1 => ?_)
  · skip
    refine mm_aload_n h d_PT_index_37 0 rfl rfl ?_
    refine mm_getr h fl_PT_12 rfl (is_PT hw) (rf_PT_tables hw) (is_TS hw).1 d_PT_index_38 ?_
    refine mm_getr h fl_PT_58 rfl (is_TS hw) (rf_TS_all hw) (is_TA hw).1.1 d_PT_index_41 ?_
    refine mm_iload_n h d_PT_index_44 1 rfl rfl ?_
    refine mm_aald h 4 rfl rfl rfl (fun _ => rfl) (is_TA hw) (b0 c1) (ra_TA hw (mm_in_lt (b0 c1))) (is_T hw (mm_in_lt (b0 c1))).1 d_PT_index_45 ?_
    refine mm_getr h fl_PT_72 rfl (is_T hw (mm_in_lt (b0 c1))) (rf_T_indexed hw (mm_in_lt (b0 c1))) (is_TI hw (mm_in_lt (b0 c1))).1.1 d_PT_index_46 ?_
    refine mm_iload_n h d_PT_index_49 2 rfl rfl ?_
    refine mm_zald h (is_TI hw (mm_in_lt (b0 c1))) (b1 c1) d_PT_index_50 ?_
    refine mm_istore_n (lv' := [(3, .int (f (5 + 12 * (x1).toNatClampNeg) (x2).toNatClampNeg)), (0, mm_rf E 1), (1, .int x1), (2, .int x2)]) h d_PT_index_51 rfl (by decide) rfl ?_
    refine mm_aload_n h d_PT_index_52 1 rfl rfl ?_
    refine mm_getr h fl_PT_12 rfl (is_PT hw) (rf_PT_tables hw) (is_TS hw).1 d_PT_index_53 ?_
    refine mm_getr h fl_PT_58 rfl (is_TS hw) (rf_TS_all hw) (is_TA hw).1.1 d_PT_index_56 ?_
    refine mm_iload_n h d_PT_index_59 2 rfl rfl ?_
    refine mm_aald h 4 rfl rfl rfl (fun _ => rfl) (is_TA hw) (b0 c1) (ra_TA hw (mm_in_lt (b0 c1))) (is_T hw (mm_in_lt (b0 c1))).1 d_PT_index_60 ?_
    refine mm_getr h fl_PT_72 rfl (is_T hw (mm_in_lt (b0 c1))) (rf_T_indexed hw (mm_in_lt (b0 c1))) (is_TI hw (mm_in_lt (b0 c1))).1.1 d_PT_index_61 ?_
    refine mm_iload_n h d_PT_index_64 3 rfl rfl ?_
    refine mm_iconst (v := 1) h d_PT_index_65 (by decide) ?_
    refine mm_zast h rfl (is_TI hw (mm_in_lt (b0 c1))) (b1 c1) d_PT_index_66 ?_
    refine mm_iload_n h d_PT_index_67 0 rfl rfl ?_
    refine mm_if_ne h d_PT_index_68 (tgt := 75) (by decide) (fun c2 => ?_) (fun c2 => ?_)
    · skip
      refine mm_iconst (v := 0) h d_PT_index_75 (by decide) ?_
      refine mm_sub [1, 2, 3, 0] rfl ?_
      exact (k2 c1 c2)
    · skip
      refine mm_iconst (v := 1) h d_PT_index_71 (by decide) ?_
      refine mm_goto h d_PT_index_72 (tgt := 76) (by decide) ?_
      refine mm_sub [1, 2, 3, 0] rfl ?_
      exact (k3 c1 c2)
  · skip
    exact (k4 c1)
theorem s_PT_index_76 {E : mm_E} {Γ : mm_G} {lev kc ks ca sa : Nat} {w : mm_W} {f : mm_F} {Post : Option Value → mm_W → mm_F → Prop} (h : mm_ok E Γ b_PT_index 4 "PlannedTables" lev kc ks) (he : mm_end E Γ (some .boolean) kc ks Post y_PT_index.name) (hca : ca ≤ kc) (hsa : sa ≤ ks) (hw : mm_sh w) {x1 : Int32} {x2 : Int32} {x3 : Int32} {xk0 : Int32} (k0 : Post (some (.int xk0)) w f) (n1 : narrow .boolean (.int xk0) = .int xk0) : mm_go E Γ 4 76 [(0, mm_rf E 1), (1, .int x1), (2, .int x2), (3, .int x3)] [.int xk0] w f ca sa := by
  exact mm_iret h he n1 d_PT_index_76 hca hsa k0
theorem d_PT_stage_0 : decode b_PT_stage 0 = .ok (.iload_n 1, 1) := by decide +kernel
theorem d_PT_stage_1 : decode b_PT_stage 1 = .ok (.ifCond .lt (8), 3) := by decide +kernel
theorem d_PT_stage_4 : decode b_PT_stage 4 = .ok (.iload_n 1, 1) := by decide +kernel
theorem d_PT_stage_5 : decode b_PT_stage 5 = .ok (.iconst (4), 1) := by decide +kernel
theorem d_PT_stage_6 : decode b_PT_stage 6 = .ok (.if_icmp .lt (5), 3) := by decide +kernel
theorem d_PT_stage_9 : decode b_PT_stage 9 = .ok (.iconst (0), 1) := by decide +kernel
theorem d_PT_stage_10 : decode b_PT_stage 10 = .ok (.ireturn, 1) := by decide +kernel
theorem d_PT_stage_11 : decode b_PT_stage 11 = .ok (.aload_n 0, 1) := by decide +kernel
theorem d_PT_stage_12 : decode b_PT_stage 12 = .ok (.getfield 16, 3) := by decide +kernel
theorem d_PT_stage_15 : decode b_PT_stage 15 = .ok (.iload_n 1, 1) := by decide +kernel
theorem d_PT_stage_16 : decode b_PT_stage 16 = .ok (.iload_n 2, 1) := by decide +kernel
theorem d_PT_stage_17 : decode b_PT_stage 17 = .ok (.iastore, 1) := by decide +kernel
theorem d_PT_stage_18 : decode b_PT_stage 18 = .ok (.iconst (1), 1) := by decide +kernel
theorem d_PT_stage_19 : decode b_PT_stage 19 = .ok (.ireturn, 1) := by decide +kernel
theorem s_PT_stage_0 {E : mm_E} {Γ : mm_G} {lev kc ks ca sa : Nat} {w : mm_W} {f : mm_F} {Post : Option Value → mm_W → mm_F → Prop} (h : mm_ok E Γ b_PT_stage 3 "PlannedTables" lev kc ks) (he : mm_end E Γ (some .boolean) kc ks Post y_PT_stage.name) (hca : ca ≤ kc) (hsa : sa ≤ ks) (hw : mm_sh w) {x1 : Int32} {x2 : Int32} (k0 : x1 < 0 → mm_go E Γ 3 9 [(0, mm_rf E 1), (1, .int x1), (2, .int x2)] [] w f ca sa) (b1 : ¬ x1 < 0 → x1 < 4 → vp_in x1 4) (k2 : ¬ x1 < 0 → x1 < 4 → Post (some (.int 1)) w (mm_up f 52 (x1).toNatClampNeg x2)) (k3 : ¬ x1 < 0 → ¬ x1 < 4 → mm_go E Γ 3 9 [(0, mm_rf E 1), (1, .int x1), (2, .int x2)] [] w f ca sa) : mm_go E Γ 3 0 [(0, mm_rf E 1), (1, .int x1), (2, .int x2)] [] w f ca sa := by
  refine mm_iload_n h d_PT_stage_0 1 rfl rfl ?_
  refine mm_if_lt h d_PT_stage_1 (tgt := 9) (by decide) (fun c1 => ?_) (fun c1 => ?_)
  · skip
    exact (k0 c1)
  · skip
    refine mm_iload_n h d_PT_stage_4 1 rfl rfl ?_
    refine mm_iconst (v := 4) h d_PT_stage_5 (by decide) ?_
    refine mm_icmp_lt h d_PT_stage_6 (tgt := 11) (by decide) (fun c2 => ?_) (fun c2 => ?_)
    · skip
      refine mm_aload_n h d_PT_stage_11 0 rfl rfl ?_
      refine mm_getr h fl_PT_16 rfl (is_PT hw) (rf_PT_staged hw) (is_ST hw).1.1 d_PT_stage_12 ?_
      refine mm_iload_n h d_PT_stage_15 1 rfl rfl ?_
      refine mm_iload_n h d_PT_stage_16 2 rfl rfl ?_
      refine mm_iast h (is_ST hw) (b1 c1 c2) d_PT_stage_17 ?_
      refine mm_iconst (v := 1) h d_PT_stage_18 (by decide) ?_
      exact mm_iret h he rfl d_PT_stage_19 hca hsa (k2 c1 c2)
    · skip
      exact (k3 c1 c2)
theorem s_PT_stage_9 {E : mm_E} {Γ : mm_G} {lev kc ks ca sa : Nat} {w : mm_W} {f : mm_F} {Post : Option Value → mm_W → mm_F → Prop} (h : mm_ok E Γ b_PT_stage 3 "PlannedTables" lev kc ks) (he : mm_end E Γ (some .boolean) kc ks Post y_PT_stage.name) (hca : ca ≤ kc) (hsa : sa ≤ ks) (hw : mm_sh w) {x1 : Int32} {x2 : Int32} (k0 : Post (some (.int 0)) w f) : mm_go E Γ 3 9 [(0, mm_rf E 1), (1, .int x1), (2, .int x2)] [] w f ca sa := by
  refine mm_iconst (v := 0) h d_PT_stage_9 (by decide) ?_
  exact mm_iret h he rfl d_PT_stage_10 hca hsa k0
theorem d_PT_insert_0 : decode b_PT_insert 0 = .ok (.aload_n 0, 1) := by decide +kernel
theorem d_PT_insert_1 : decode b_PT_insert 1 = .ok (.getfield 12, 3) := by decide +kernel
theorem d_PT_insert_4 : decode b_PT_insert 4 = .ok (.iload_n 1, 1) := by decide +kernel
theorem d_PT_insert_5 : decode b_PT_insert 5 = .ok (.invokevirtual 54, 3) := by decide +kernel
theorem d_PT_insert_8 : decode b_PT_insert 8 = .ok (.ifCond .ne (13), 3) := by decide +kernel
theorem d_PT_insert_11 : decode b_PT_insert 11 = .ok (.new 67, 3) := by decide +kernel
theorem d_PT_insert_14 : decode b_PT_insert 14 = .ok (.dup, 1) := by decide +kernel
theorem d_PT_insert_15 : decode b_PT_insert 15 = .ok (.ldc 76, 2) := by decide +kernel
theorem d_PT_insert_17 : decode b_PT_insert 17 = .ok (.invokespecial 71, 3) := by decide +kernel
theorem d_PT_insert_20 : decode b_PT_insert 20 = .ok (.athrow, 1) := by decide +kernel
theorem d_PT_insert_21 : decode b_PT_insert 21 = .ok (.aload_n 0, 1) := by decide +kernel
theorem d_PT_insert_22 : decode b_PT_insert 22 = .ok (.getfield 12, 3) := by decide +kernel
theorem d_PT_insert_25 : decode b_PT_insert 25 = .ok (.getfield 58, 3) := by decide +kernel
theorem d_PT_insert_28 : decode b_PT_insert 28 = .ok (.iload_n 1, 1) := by decide +kernel
theorem d_PT_insert_29 : decode b_PT_insert 29 = .ok (.aaload, 1) := by decide +kernel
theorem d_PT_insert_30 : decode b_PT_insert 30 = .ok (.aload_n 0, 1) := by decide +kernel
theorem d_PT_insert_31 : decode b_PT_insert 31 = .ok (.getfield 16, 3) := by decide +kernel
theorem d_PT_insert_34 : decode b_PT_insert 34 = .ok (.iconst (0), 1) := by decide +kernel
theorem d_PT_insert_35 : decode b_PT_insert 35 = .ok (.iaload, 1) := by decide +kernel
theorem d_PT_insert_36 : decode b_PT_insert 36 = .ok (.invokevirtual 78, 3) := by decide +kernel
theorem d_PT_insert_39 : decode b_PT_insert 39 = .ok (.iconst (-1), 1) := by decide +kernel
theorem d_PT_insert_40 : decode b_PT_insert 40 = .ok (.if_icmp .eq (13), 3) := by decide +kernel
theorem d_PT_insert_43 : decode b_PT_insert 43 = .ok (.new 81, 3) := by decide +kernel
theorem d_PT_insert_46 : decode b_PT_insert 46 = .ok (.dup, 1) := by decide +kernel
theorem d_PT_insert_47 : decode b_PT_insert 47 = .ok (.ldc 83, 2) := by decide +kernel
theorem d_PT_insert_49 : decode b_PT_insert 49 = .ok (.invokespecial 85, 3) := by decide +kernel
theorem d_PT_insert_52 : decode b_PT_insert 52 = .ok (.athrow, 1) := by decide +kernel
theorem d_PT_insert_53 : decode b_PT_insert 53 = .ok (.aload_n 0, 1) := by decide +kernel
theorem d_PT_insert_54 : decode b_PT_insert 54 = .ok (.getfield 12, 3) := by decide +kernel
theorem d_PT_insert_57 : decode b_PT_insert 57 = .ok (.invokevirtual 86, 3) := by decide +kernel
theorem d_PT_insert_60 : decode b_PT_insert 60 = .ok (.bipush (48), 2) := by decide +kernel
theorem d_PT_insert_62 : decode b_PT_insert 62 = .ok (.if_icmp .lt (13), 3) := by decide +kernel
theorem d_PT_insert_65 : decode b_PT_insert 65 = .ok (.new 45, 3) := by decide +kernel
theorem d_PT_insert_68 : decode b_PT_insert 68 = .ok (.dup, 1) := by decide +kernel
theorem d_PT_insert_69 : decode b_PT_insert 69 = .ok (.ldc 90, 2) := by decide +kernel
theorem d_PT_insert_71 : decode b_PT_insert 71 = .ok (.invokespecial 49, 3) := by decide +kernel
theorem d_PT_insert_74 : decode b_PT_insert 74 = .ok (.athrow, 1) := by decide +kernel
theorem d_PT_insert_75 : decode b_PT_insert 75 = .ok (.aload_n 0, 1) := by decide +kernel
theorem d_PT_insert_76 : decode b_PT_insert 76 = .ok (.getfield 12, 3) := by decide +kernel
theorem d_PT_insert_79 : decode b_PT_insert 79 = .ok (.getfield 58, 3) := by decide +kernel
theorem d_PT_insert_82 : decode b_PT_insert 82 = .ok (.iload_n 1, 1) := by decide +kernel
theorem d_PT_insert_83 : decode b_PT_insert 83 = .ok (.aaload, 1) := by decide +kernel
theorem d_PT_insert_84 : decode b_PT_insert 84 = .ok (.aload_n 0, 1) := by decide +kernel
theorem d_PT_insert_85 : decode b_PT_insert 85 = .ok (.getfield 16, 3) := by decide +kernel
theorem d_PT_insert_88 : decode b_PT_insert 88 = .ok (.invokevirtual 92, 3) := by decide +kernel
theorem d_PT_insert_91 : decode b_PT_insert 91 = .ok (.aload_n 0, 1) := by decide +kernel
theorem d_PT_insert_92 : decode b_PT_insert 92 = .ok (.getfield 12, 3) := by decide +kernel
theorem d_PT_insert_95 : decode b_PT_insert 95 = .ok (.getfield 58, 3) := by decide +kernel
theorem d_PT_insert_98 : decode b_PT_insert 98 = .ok (.iload_n 1, 1) := by decide +kernel
theorem d_PT_insert_99 : decode b_PT_insert 99 = .ok (.aaload, 1) := by decide +kernel
theorem d_PT_insert_100 : decode b_PT_insert 100 = .ok (.getfield 96, 3) := by decide +kernel
theorem d_PT_insert_103 : decode b_PT_insert 103 = .ok (.ireturn, 1) := by decide +kernel
theorem s_PT_insert_0 {E : mm_E} {Γ : mm_G} {lev kc ks ca sa : Nat} {w : mm_W} {f : mm_F} (h : mm_ok E Γ b_PT_insert 2 "PlannedTables" lev kc ks) (hw : mm_sh w) {x1 : Int32} {vl0 vc0 vs0 : Nat} {P0 : Option Value → mm_W → mm_F → Prop} (hl0 : vl0 < lev) (hu0 : ca + vc0 ≤ kc) (hz0 : sa + vs0 ≤ ks) (m0 : mm_C E y_TS_has b_TS_has 2 (some .boolean) vl0 vc0 vs0 [mm_rf E 2, .int x1] w f P0) (k1 : ∀ (r : Option Value) (w1 : mm_W) (f1 : mm_F), P0 r w1 f1 → mm_go E Γ 2 8 [(0, mm_rf E 1), (1, .int x1)] (r.toList ++ []) w1 f1 (ca + vc0) (sa + vs0)) : mm_go E Γ 2 0 [(0, mm_rf E 1), (1, .int x1)] [] w f ca sa := by
  refine mm_aload_n h d_PT_insert_0 0 rfl rfl ?_
  refine mm_getr h fl_PT_12 rfl (is_PT hw) (rf_PT_tables hw) (is_TS hw).1 d_PT_insert_1 ?_
  refine mm_iload_n h d_PT_insert_4 1 rfl rfl ?_
  exact mm_callV (As := [.int x1]) (rest := []) h m0 cv_PT_54 cm_TS_has hl0 (q0 := _) rfl rfl (is_TS hw) hu0 hz0 rfl rfl (Nat.le_of_ble_eq_true rfl) d_PT_insert_5 (fun r w1 f1 hp => k1 r w1 f1 hp)
theorem s_PT_insert_8 {E : mm_E} {Γ : mm_G} {lev kc ks ca sa : Nat} {w : mm_W} {f : mm_F} (h : mm_ok E Γ b_PT_insert 2 "PlannedTables" lev kc ks) (hw : mm_sh w) {x1 : Int32} {xk0 : Int32} (b0 : ¬ xk0 = 0 → vp_in x1 4) {vl0 vc0 vs0 : Nat} {P0 : Option Value → mm_W → mm_F → Prop} (hl0 : vl0 < lev) (hu0 : ca + vc0 ≤ kc) (hz0 : sa + vs0 ≤ ks) (m1 : ¬ xk0 = 0 → mm_C E y_TB_slotOf b_TB_slotOf 3 (some .int) vl0 vc0 vs0 [mm_rf E (4 + 12 * (x1).toNatClampNeg), .int (f 52 0)] w f P0) (k2 : ¬ xk0 = 0 → ∀ (r : Option Value) (w1 : mm_W) (f1 : mm_F), P0 r w1 f1 → mm_go E Γ 2 39 [(0, mm_rf E 1), (1, .int x1)] (r.toList ++ []) w1 f1 (ca + vc0) (sa + vs0)) (k3 : xk0 = 0 → mm_go E Γ 2 11 [(0, mm_rf E 1), (1, .int x1)] [] w f ca sa) : mm_go E Γ 2 8 [(0, mm_rf E 1), (1, .int x1)] [.int xk0] w f ca sa := by
  refine mm_if_ne h d_PT_insert_8 (tgt := 21) (by decide) (fun c1 => ?_) (fun c1 => ?_)
  · skip
    refine mm_aload_n h d_PT_insert_21 0 rfl rfl ?_
    refine mm_getr h fl_PT_12 rfl (is_PT hw) (rf_PT_tables hw) (is_TS hw).1 d_PT_insert_22 ?_
    refine mm_getr h fl_PT_58 rfl (is_TS hw) (rf_TS_all hw) (is_TA hw).1.1 d_PT_insert_25 ?_
    refine mm_iload_n h d_PT_insert_28 1 rfl rfl ?_
    refine mm_aald h 4 rfl rfl rfl (fun _ => rfl) (is_TA hw) (b0 c1) (ra_TA hw (mm_in_lt (b0 c1))) (is_T hw (mm_in_lt (b0 c1))).1 d_PT_insert_29 ?_
    refine mm_aload_n h d_PT_insert_30 0 rfl rfl ?_
    refine mm_getr h fl_PT_16 rfl (is_PT hw) (rf_PT_staged hw) (is_ST hw).1.1 d_PT_insert_31 ?_
    refine mm_iconst (v := 0) h d_PT_insert_34 (by decide) ?_
    refine mm_iald h (is_ST hw) (by unfold vp_in; decide) d_PT_insert_35 ?_
    exact mm_callV (As := [.int (f 52 0)]) (rest := []) h (m1 c1) cv_PT_78 cm_TB_slotOf hl0 (q0 := _) rfl rfl (is_T hw (mm_in_lt (b0 c1))) hu0 hz0 rfl rfl (Nat.le_of_ble_eq_true rfl) d_PT_insert_36 (fun r w1 f1 hp => (k2 c1) r w1 f1 hp)
  · skip
    exact (k3 c1)
theorem s_PT_insert_39 {E : mm_E} {Γ : mm_G} {lev kc ks ca sa : Nat} {w : mm_W} {f : mm_F} (h : mm_ok E Γ b_PT_insert 2 "PlannedTables" lev kc ks) (hw : mm_sh w) {x1 : Int32} {xk0 : Int32} {vl0 vc0 vs0 : Nat} {P0 : Option Value → mm_W → mm_F → Prop} (hl0 : vl0 < lev) (hu0 : ca + vc0 ≤ kc) (hz0 : sa + vs0 ≤ ks) (m0 : xk0 = (-1) → mm_C E y_TS_rowsInAll b_TS_rowsInAll 3 (some .int) vl0 vc0 vs0 [mm_rf E 2] w f P0) (k1 : xk0 = (-1) → ∀ (r : Option Value) (w1 : mm_W) (f1 : mm_F), P0 r w1 f1 → mm_go E Γ 2 60 [(0, mm_rf E 1), (1, .int x1)] (r.toList ++ []) w1 f1 (ca + vc0) (sa + vs0)) (k2 : ¬ xk0 = (-1) → mm_go E Γ 2 43 [(0, mm_rf E 1), (1, .int x1)] [] w f ca sa) : mm_go E Γ 2 39 [(0, mm_rf E 1), (1, .int x1)] [.int xk0] w f ca sa := by
  refine mm_iconst (v := (-1)) h d_PT_insert_39 (by decide) ?_
  refine mm_icmp_eq h d_PT_insert_40 (tgt := 53) (by decide) (fun c1 => ?_) (fun c1 => ?_)
  · skip
    refine mm_aload_n h d_PT_insert_53 0 rfl rfl ?_
    refine mm_getr h fl_PT_12 rfl (is_PT hw) (rf_PT_tables hw) (is_TS hw).1 d_PT_insert_54 ?_
    exact mm_callV (As := []) (rest := []) h (m0 c1) cv_PT_86 cm_TS_rowsInAll hl0 (q0 := _) rfl rfl (is_TS hw) hu0 hz0 rfl rfl (Nat.le_of_ble_eq_true rfl) d_PT_insert_57 (fun r w1 f1 hp => (k1 c1) r w1 f1 hp)
  · skip
    exact (k2 c1)
theorem s_PT_insert_60 {E : mm_E} {Γ : mm_G} {lev kc ks ca sa : Nat} {w : mm_W} {f : mm_F} (h : mm_ok E Γ b_PT_insert 2 "PlannedTables" lev kc ks) (hw : mm_sh w) {x1 : Int32} {xk0 : Int32} (b0 : xk0 < 48 → vp_in x1 4) {vl0 vc0 vs0 : Nat} {P0 : Option Value → mm_W → mm_F → Prop} (hl0 : vl0 < lev) (hu0 : ca + vc0 ≤ kc) (hz0 : sa + vs0 ≤ ks) (m1 : xk0 < 48 → mm_C E y_TB_add b_TB_add 3 none vl0 vc0 vs0 [mm_rf E (4 + 12 * (x1).toNatClampNeg), mm_rf E 52] w f P0) (k2 : xk0 < 48 → ∀ (r : Option Value) (w1 : mm_W) (f1 : mm_F), P0 r w1 f1 → mm_go E Γ 2 91 [(0, mm_rf E 1), (1, .int x1)] (r.toList ++ []) w1 f1 (ca + vc0) (sa + vs0)) (k3 : ¬ xk0 < 48 → mm_go E Γ 2 65 [(0, mm_rf E 1), (1, .int x1)] [] w f ca sa) : mm_go E Γ 2 60 [(0, mm_rf E 1), (1, .int x1)] [.int xk0] w f ca sa := by
  refine mm_bipush (v := 48) h d_PT_insert_60 (by decide) ?_
  refine mm_icmp_lt h d_PT_insert_62 (tgt := 75) (by decide) (fun c1 => ?_) (fun c1 => ?_)
  · skip
    refine mm_aload_n h d_PT_insert_75 0 rfl rfl ?_
    refine mm_getr h fl_PT_12 rfl (is_PT hw) (rf_PT_tables hw) (is_TS hw).1 d_PT_insert_76 ?_
    refine mm_getr h fl_PT_58 rfl (is_TS hw) (rf_TS_all hw) (is_TA hw).1.1 d_PT_insert_79 ?_
    refine mm_iload_n h d_PT_insert_82 1 rfl rfl ?_
    refine mm_aald h 4 rfl rfl rfl (fun _ => rfl) (is_TA hw) (b0 c1) (ra_TA hw (mm_in_lt (b0 c1))) (is_T hw (mm_in_lt (b0 c1))).1 d_PT_insert_83 ?_
    refine mm_aload_n h d_PT_insert_84 0 rfl rfl ?_
    refine mm_getr h fl_PT_16 rfl (is_PT hw) (rf_PT_staged hw) (is_ST hw).1.1 d_PT_insert_85 ?_
    exact mm_callV (As := [mm_rf E 52]) (rest := []) h (m1 c1) cv_PT_92 cm_TB_add hl0 (q0 := _) rfl rfl (is_T hw (mm_in_lt (b0 c1))) hu0 hz0 rfl rfl (Nat.le_of_ble_eq_true rfl) d_PT_insert_88 (fun r w1 f1 hp => (k2 c1) r w1 f1 hp)
  · skip
    exact (k3 c1)
theorem s_PT_insert_91 {E : mm_E} {Γ : mm_G} {lev kc ks ca sa : Nat} {w : mm_W} {f : mm_F} {Post : Option Value → mm_W → mm_F → Prop} (h : mm_ok E Γ b_PT_insert 2 "PlannedTables" lev kc ks) (he : mm_end E Γ (some .int) kc ks Post y_PT_insert.name) (hca : ca ≤ kc) (hsa : sa ≤ ks) (hw : mm_sh w) {x1 : Int32} (b0 : vp_in x1 4) (k1 : Post (some (.int (f (4 + 12 * (x1).toNatClampNeg) 1))) w f) : mm_go E Γ 2 91 [(0, mm_rf E 1), (1, .int x1)] [] w f ca sa := by
  refine mm_aload_n h d_PT_insert_91 0 rfl rfl ?_
  refine mm_getr h fl_PT_12 rfl (is_PT hw) (rf_PT_tables hw) (is_TS hw).1 d_PT_insert_92 ?_
  refine mm_getr h fl_PT_58 rfl (is_TS hw) (rf_TS_all hw) (is_TA hw).1.1 d_PT_insert_95 ?_
  refine mm_iload_n h d_PT_insert_98 1 rfl rfl ?_
  refine mm_aald h 4 rfl rfl rfl (fun _ => rfl) (is_TA hw) b0 (ra_TA hw (mm_in_lt b0)) (is_T hw (mm_in_lt b0)).1 d_PT_insert_99 ?_
  refine mm_geti h fl_PT_96 rfl (is_T hw (mm_in_lt b0)) d_PT_insert_100 ?_
  exact mm_iret h he rfl d_PT_insert_103 hca hsa k1
theorem d_PT_delete_0 : decode b_PT_delete 0 = .ok (.aload_n 0, 1) := by decide +kernel
theorem d_PT_delete_1 : decode b_PT_delete 1 = .ok (.getfield 12, 3) := by decide +kernel
theorem d_PT_delete_4 : decode b_PT_delete 4 = .ok (.iload_n 1, 1) := by decide +kernel
theorem d_PT_delete_5 : decode b_PT_delete 5 = .ok (.invokevirtual 54, 3) := by decide +kernel
theorem d_PT_delete_8 : decode b_PT_delete 8 = .ok (.ifCond .ne (13), 3) := by decide +kernel
theorem d_PT_delete_11 : decode b_PT_delete 11 = .ok (.new 67, 3) := by decide +kernel
theorem d_PT_delete_14 : decode b_PT_delete 14 = .ok (.dup, 1) := by decide +kernel
theorem d_PT_delete_15 : decode b_PT_delete 15 = .ok (.ldc 76, 2) := by decide +kernel
theorem d_PT_delete_17 : decode b_PT_delete 17 = .ok (.invokespecial 71, 3) := by decide +kernel
theorem d_PT_delete_20 : decode b_PT_delete 20 = .ok (.athrow, 1) := by decide +kernel
theorem d_PT_delete_21 : decode b_PT_delete 21 = .ok (.aload_n 0, 1) := by decide +kernel
theorem d_PT_delete_22 : decode b_PT_delete 22 = .ok (.getfield 12, 3) := by decide +kernel
theorem d_PT_delete_25 : decode b_PT_delete 25 = .ok (.getfield 58, 3) := by decide +kernel
theorem d_PT_delete_28 : decode b_PT_delete 28 = .ok (.iload_n 1, 1) := by decide +kernel
theorem d_PT_delete_29 : decode b_PT_delete 29 = .ok (.aaload, 1) := by decide +kernel
theorem d_PT_delete_30 : decode b_PT_delete 30 = .ok (.iload_n 2, 1) := by decide +kernel
theorem d_PT_delete_31 : decode b_PT_delete 31 = .ok (.invokevirtual 78, 3) := by decide +kernel
theorem d_PT_delete_34 : decode b_PT_delete 34 = .ok (.istore_n 3, 1) := by decide +kernel
theorem d_PT_delete_35 : decode b_PT_delete 35 = .ok (.iload_n 3, 1) := by decide +kernel
theorem d_PT_delete_36 : decode b_PT_delete 36 = .ok (.iconst (-1), 1) := by decide +kernel
theorem d_PT_delete_37 : decode b_PT_delete 37 = .ok (.if_icmp .ne (13), 3) := by decide +kernel
theorem d_PT_delete_40 : decode b_PT_delete 40 = .ok (.new 99, 3) := by decide +kernel
theorem d_PT_delete_43 : decode b_PT_delete 43 = .ok (.dup, 1) := by decide +kernel
theorem d_PT_delete_44 : decode b_PT_delete 44 = .ok (.ldc 101, 2) := by decide +kernel
theorem d_PT_delete_46 : decode b_PT_delete 46 = .ok (.invokespecial 103, 3) := by decide +kernel
theorem d_PT_delete_49 : decode b_PT_delete 49 = .ok (.athrow, 1) := by decide +kernel
theorem d_PT_delete_50 : decode b_PT_delete 50 = .ok (.aload_n 0, 1) := by decide +kernel
theorem d_PT_delete_51 : decode b_PT_delete 51 = .ok (.getfield 12, 3) := by decide +kernel
theorem d_PT_delete_54 : decode b_PT_delete 54 = .ok (.getfield 58, 3) := by decide +kernel
theorem d_PT_delete_57 : decode b_PT_delete 57 = .ok (.iload_n 1, 1) := by decide +kernel
theorem d_PT_delete_58 : decode b_PT_delete 58 = .ok (.aaload, 1) := by decide +kernel
theorem d_PT_delete_59 : decode b_PT_delete 59 = .ok (.iload_n 3, 1) := by decide +kernel
theorem d_PT_delete_60 : decode b_PT_delete 60 = .ok (.invokevirtual 104, 3) := by decide +kernel
theorem d_PT_delete_63 : decode b_PT_delete 63 = .ok (.aload_n 0, 1) := by decide +kernel
theorem d_PT_delete_64 : decode b_PT_delete 64 = .ok (.getfield 12, 3) := by decide +kernel
theorem d_PT_delete_67 : decode b_PT_delete 67 = .ok (.getfield 58, 3) := by decide +kernel
theorem d_PT_delete_70 : decode b_PT_delete 70 = .ok (.iload_n 1, 1) := by decide +kernel
theorem d_PT_delete_71 : decode b_PT_delete 71 = .ok (.aaload, 1) := by decide +kernel
theorem d_PT_delete_72 : decode b_PT_delete 72 = .ok (.getfield 96, 3) := by decide +kernel
theorem d_PT_delete_75 : decode b_PT_delete 75 = .ok (.ireturn, 1) := by decide +kernel
theorem s_PT_delete_0 {E : mm_E} {Γ : mm_G} {lev kc ks ca sa : Nat} {w : mm_W} {f : mm_F} (h : mm_ok E Γ b_PT_delete 4 "PlannedTables" lev kc ks) (hw : mm_sh w) {x1 : Int32} {x2 : Int32} {vl0 vc0 vs0 : Nat} {P0 : Option Value → mm_W → mm_F → Prop} (hl0 : vl0 < lev) (hu0 : ca + vc0 ≤ kc) (hz0 : sa + vs0 ≤ ks) (m0 : mm_C E y_TS_has b_TS_has 2 (some .boolean) vl0 vc0 vs0 [mm_rf E 2, .int x1] w f P0) (k1 : ∀ (r : Option Value) (w1 : mm_W) (f1 : mm_F), P0 r w1 f1 → mm_go E Γ 4 8 [(0, mm_rf E 1), (1, .int x1), (2, .int x2)] (r.toList ++ []) w1 f1 (ca + vc0) (sa + vs0)) : mm_go E Γ 4 0 [(0, mm_rf E 1), (1, .int x1), (2, .int x2)] [] w f ca sa := by
  refine mm_aload_n h d_PT_delete_0 0 rfl rfl ?_
  refine mm_getr h fl_PT_12 rfl (is_PT hw) (rf_PT_tables hw) (is_TS hw).1 d_PT_delete_1 ?_
  refine mm_iload_n h d_PT_delete_4 1 rfl rfl ?_
  exact mm_callV (As := [.int x1]) (rest := []) h m0 cv_PT_54 cm_TS_has hl0 (q0 := _) rfl rfl (is_TS hw) hu0 hz0 rfl rfl (Nat.le_of_ble_eq_true rfl) d_PT_delete_5 (fun r w1 f1 hp => k1 r w1 f1 hp)
theorem s_PT_delete_8 {E : mm_E} {Γ : mm_G} {lev kc ks ca sa : Nat} {w : mm_W} {f : mm_F} (h : mm_ok E Γ b_PT_delete 4 "PlannedTables" lev kc ks) (hw : mm_sh w) {x1 : Int32} {x2 : Int32} {xk0 : Int32} (b0 : ¬ xk0 = 0 → vp_in x1 4) {vl0 vc0 vs0 : Nat} {P0 : Option Value → mm_W → mm_F → Prop} (hl0 : vl0 < lev) (hu0 : ca + vc0 ≤ kc) (hz0 : sa + vs0 ≤ ks) (m1 : ¬ xk0 = 0 → mm_C E y_TB_slotOf b_TB_slotOf 3 (some .int) vl0 vc0 vs0 [mm_rf E (4 + 12 * (x1).toNatClampNeg), .int x2] w f P0) (k2 : ¬ xk0 = 0 → ∀ (r : Option Value) (w1 : mm_W) (f1 : mm_F), P0 r w1 f1 → mm_go E Γ 4 34 [(0, mm_rf E 1), (1, .int x1), (2, .int x2)] (r.toList ++ []) w1 f1 (ca + vc0) (sa + vs0)) (k3 : xk0 = 0 → mm_go E Γ 4 11 [(0, mm_rf E 1), (1, .int x1), (2, .int x2)] [] w f ca sa) : mm_go E Γ 4 8 [(0, mm_rf E 1), (1, .int x1), (2, .int x2)] [.int xk0] w f ca sa := by
  refine mm_if_ne h d_PT_delete_8 (tgt := 21) (by decide) (fun c1 => ?_) (fun c1 => ?_)
  · skip
    refine mm_aload_n h d_PT_delete_21 0 rfl rfl ?_
    refine mm_getr h fl_PT_12 rfl (is_PT hw) (rf_PT_tables hw) (is_TS hw).1 d_PT_delete_22 ?_
    refine mm_getr h fl_PT_58 rfl (is_TS hw) (rf_TS_all hw) (is_TA hw).1.1 d_PT_delete_25 ?_
    refine mm_iload_n h d_PT_delete_28 1 rfl rfl ?_
    refine mm_aald h 4 rfl rfl rfl (fun _ => rfl) (is_TA hw) (b0 c1) (ra_TA hw (mm_in_lt (b0 c1))) (is_T hw (mm_in_lt (b0 c1))).1 d_PT_delete_29 ?_
    refine mm_iload_n h d_PT_delete_30 2 rfl rfl ?_
    exact mm_callV (As := [.int x2]) (rest := []) h (m1 c1) cv_PT_78 cm_TB_slotOf hl0 (q0 := _) rfl rfl (is_T hw (mm_in_lt (b0 c1))) hu0 hz0 rfl rfl (Nat.le_of_ble_eq_true rfl) d_PT_delete_31 (fun r w1 f1 hp => (k2 c1) r w1 f1 hp)
  · skip
    exact (k3 c1)
theorem s_PT_delete_34 {E : mm_E} {Γ : mm_G} {lev kc ks ca sa : Nat} {w : mm_W} {f : mm_F} (h : mm_ok E Γ b_PT_delete 4 "PlannedTables" lev kc ks) (hw : mm_sh w) {x1 : Int32} {x2 : Int32} {xk0 : Int32} (b0 : ¬ xk0 = (-1) → vp_in x1 4) {vl0 vc0 vs0 : Nat} {P0 : Option Value → mm_W → mm_F → Prop} (hl0 : vl0 < lev) (hu0 : ca + vc0 ≤ kc) (hz0 : sa + vs0 ≤ ks) (m1 : ¬ xk0 = (-1) → mm_C E y_TB_remove b_TB_remove 4 none vl0 vc0 vs0 [mm_rf E (4 + 12 * (x1).toNatClampNeg), .int xk0] w f P0) (k2 : ¬ xk0 = (-1) → ∀ (r : Option Value) (w1 : mm_W) (f1 : mm_F), P0 r w1 f1 → mm_go E Γ 4 63 [(0, mm_rf E 1), (1, .int x1), (2, .int x2), (3, .int xk0)] (r.toList ++ []) w1 f1 (ca + vc0) (sa + vs0)) (k3 : xk0 = (-1) → mm_go E Γ 4 40 [(0, mm_rf E 1), (1, .int x1), (2, .int x2), (3, .int xk0)] [] w f ca sa) : mm_go E Γ 4 34 [(0, mm_rf E 1), (1, .int x1), (2, .int x2)] [.int xk0] w f ca sa := by
  refine mm_istore_n (lv' := [(3, .int xk0), (0, mm_rf E 1), (1, .int x1), (2, .int x2)]) h d_PT_delete_34 rfl (by decide) rfl ?_
  refine mm_iload_n h d_PT_delete_35 0 rfl rfl ?_
  refine mm_iconst (v := (-1)) h d_PT_delete_36 (by decide) ?_
  refine mm_icmp_ne h d_PT_delete_37 (tgt := 50) (by decide) (fun c1 => ?_) (fun c1 => ?_)
  · skip
    refine mm_aload_n h d_PT_delete_50 1 rfl rfl ?_
    refine mm_getr h fl_PT_12 rfl (is_PT hw) (rf_PT_tables hw) (is_TS hw).1 d_PT_delete_51 ?_
    refine mm_getr h fl_PT_58 rfl (is_TS hw) (rf_TS_all hw) (is_TA hw).1.1 d_PT_delete_54 ?_
    refine mm_iload_n h d_PT_delete_57 2 rfl rfl ?_
    refine mm_aald h 4 rfl rfl rfl (fun _ => rfl) (is_TA hw) (b0 c1) (ra_TA hw (mm_in_lt (b0 c1))) (is_T hw (mm_in_lt (b0 c1))).1 d_PT_delete_58 ?_
    refine mm_iload_n h d_PT_delete_59 0 rfl rfl ?_
    exact mm_callV (As := [.int xk0]) (rest := []) h (m1 c1) cv_PT_104 cm_TB_remove hl0 (q0 := _) rfl rfl (is_T hw (mm_in_lt (b0 c1))) hu0 hz0 rfl rfl (Nat.le_of_ble_eq_true rfl) d_PT_delete_60 (fun r w1 f1 hp => mm_sub [1, 2, 3, 0] rfl ((k2 c1) r w1 f1 hp))
  · skip
    refine mm_sub [1, 2, 3, 0] rfl ?_
    exact (k3 c1)
theorem s_PT_delete_63 {E : mm_E} {Γ : mm_G} {lev kc ks ca sa : Nat} {w : mm_W} {f : mm_F} {Post : Option Value → mm_W → mm_F → Prop} (h : mm_ok E Γ b_PT_delete 4 "PlannedTables" lev kc ks) (he : mm_end E Γ (some .int) kc ks Post y_PT_delete.name) (hca : ca ≤ kc) (hsa : sa ≤ ks) (hw : mm_sh w) {x1 : Int32} {x2 : Int32} {x3 : Int32} (b0 : vp_in x1 4) (k1 : Post (some (.int (f (4 + 12 * (x1).toNatClampNeg) 1))) w f) : mm_go E Γ 4 63 [(0, mm_rf E 1), (1, .int x1), (2, .int x2), (3, .int x3)] [] w f ca sa := by
  refine mm_aload_n h d_PT_delete_63 0 rfl rfl ?_
  refine mm_getr h fl_PT_12 rfl (is_PT hw) (rf_PT_tables hw) (is_TS hw).1 d_PT_delete_64 ?_
  refine mm_getr h fl_PT_58 rfl (is_TS hw) (rf_TS_all hw) (is_TA hw).1.1 d_PT_delete_67 ?_
  refine mm_iload_n h d_PT_delete_70 1 rfl rfl ?_
  refine mm_aald h 4 rfl rfl rfl (fun _ => rfl) (is_TA hw) b0 (ra_TA hw (mm_in_lt b0)) (is_T hw (mm_in_lt b0)).1 d_PT_delete_71 ?_
  refine mm_geti h fl_PT_96 rfl (is_T hw (mm_in_lt b0)) d_PT_delete_72 ?_
  exact mm_iret h he rfl d_PT_delete_75 hca hsa k1
theorem d_PT_cell_0 : decode b_PT_cell 0 = .ok (.aload_n 0, 1) := by decide +kernel
theorem d_PT_cell_1 : decode b_PT_cell 1 = .ok (.getfield 12, 3) := by decide +kernel
theorem d_PT_cell_4 : decode b_PT_cell 4 = .ok (.iload_n 1, 1) := by decide +kernel
theorem d_PT_cell_5 : decode b_PT_cell 5 = .ok (.invokevirtual 54, 3) := by decide +kernel
theorem d_PT_cell_8 : decode b_PT_cell 8 = .ok (.ifCond .eq (19), 3) := by decide +kernel
theorem d_PT_cell_11 : decode b_PT_cell 11 = .ok (.aload_n 0, 1) := by decide +kernel
theorem d_PT_cell_12 : decode b_PT_cell 12 = .ok (.getfield 12, 3) := by decide +kernel
theorem d_PT_cell_15 : decode b_PT_cell 15 = .ok (.getfield 58, 3) := by decide +kernel
theorem d_PT_cell_18 : decode b_PT_cell 18 = .ok (.iload_n 1, 1) := by decide +kernel
theorem d_PT_cell_19 : decode b_PT_cell 19 = .ok (.aaload, 1) := by decide +kernel
theorem d_PT_cell_20 : decode b_PT_cell 20 = .ok (.iload_n 3, 1) := by decide +kernel
theorem d_PT_cell_21 : decode b_PT_cell 21 = .ok (.invokevirtual 62, 3) := by decide +kernel
theorem d_PT_cell_24 : decode b_PT_cell 24 = .ok (.ifCond .ne (13), 3) := by decide +kernel
theorem d_PT_cell_27 : decode b_PT_cell 27 = .ok (.new 67, 3) := by decide +kernel
theorem d_PT_cell_30 : decode b_PT_cell 30 = .ok (.dup, 1) := by decide +kernel
theorem d_PT_cell_31 : decode b_PT_cell 31 = .ok (.ldc 69, 2) := by decide +kernel
theorem d_PT_cell_33 : decode b_PT_cell 33 = .ok (.invokespecial 71, 3) := by decide +kernel
theorem d_PT_cell_36 : decode b_PT_cell 36 = .ok (.athrow, 1) := by decide +kernel
theorem d_PT_cell_37 : decode b_PT_cell 37 = .ok (.aload_n 0, 1) := by decide +kernel
theorem d_PT_cell_38 : decode b_PT_cell 38 = .ok (.getfield 12, 3) := by decide +kernel
theorem d_PT_cell_41 : decode b_PT_cell 41 = .ok (.getfield 58, 3) := by decide +kernel
theorem d_PT_cell_44 : decode b_PT_cell 44 = .ok (.iload_n 1, 1) := by decide +kernel
theorem d_PT_cell_45 : decode b_PT_cell 45 = .ok (.aaload, 1) := by decide +kernel
theorem d_PT_cell_46 : decode b_PT_cell 46 = .ok (.iload_n 2, 1) := by decide +kernel
theorem d_PT_cell_47 : decode b_PT_cell 47 = .ok (.invokevirtual 78, 3) := by decide +kernel
theorem d_PT_cell_50 : decode b_PT_cell 50 = .ok (.istore 4, 2) := by decide +kernel
theorem d_PT_cell_52 : decode b_PT_cell 52 = .ok (.iload 4, 2) := by decide +kernel
theorem d_PT_cell_54 : decode b_PT_cell 54 = .ok (.iconst (-1), 1) := by decide +kernel
theorem d_PT_cell_55 : decode b_PT_cell 55 = .ok (.if_icmp .ne (13), 3) := by decide +kernel
theorem d_PT_cell_58 : decode b_PT_cell 58 = .ok (.new 99, 3) := by decide +kernel
theorem d_PT_cell_61 : decode b_PT_cell 61 = .ok (.dup, 1) := by decide +kernel
theorem d_PT_cell_62 : decode b_PT_cell 62 = .ok (.ldc 101, 2) := by decide +kernel
theorem d_PT_cell_64 : decode b_PT_cell 64 = .ok (.invokespecial 103, 3) := by decide +kernel
theorem d_PT_cell_67 : decode b_PT_cell 67 = .ok (.athrow, 1) := by decide +kernel
theorem d_PT_cell_68 : decode b_PT_cell 68 = .ok (.aload_n 0, 1) := by decide +kernel
theorem d_PT_cell_69 : decode b_PT_cell 69 = .ok (.getfield 12, 3) := by decide +kernel
theorem d_PT_cell_72 : decode b_PT_cell 72 = .ok (.getfield 58, 3) := by decide +kernel
theorem d_PT_cell_75 : decode b_PT_cell 75 = .ok (.iload_n 1, 1) := by decide +kernel
theorem d_PT_cell_76 : decode b_PT_cell 76 = .ok (.aaload, 1) := by decide +kernel
theorem d_PT_cell_77 : decode b_PT_cell 77 = .ok (.getfield 108, 3) := by decide +kernel
theorem d_PT_cell_80 : decode b_PT_cell 80 = .ok (.iload_n 3, 1) := by decide +kernel
theorem d_PT_cell_81 : decode b_PT_cell 81 = .ok (.aaload, 1) := by decide +kernel
theorem d_PT_cell_82 : decode b_PT_cell 82 = .ok (.iload 4, 2) := by decide +kernel
theorem d_PT_cell_84 : decode b_PT_cell 84 = .ok (.iaload, 1) := by decide +kernel
theorem d_PT_cell_85 : decode b_PT_cell 85 = .ok (.ireturn, 1) := by decide +kernel
theorem s_PT_cell_0 {E : mm_E} {Γ : mm_G} {lev kc ks ca sa : Nat} {w : mm_W} {f : mm_F} (h : mm_ok E Γ b_PT_cell 5 "PlannedTables" lev kc ks) (hw : mm_sh w) {x1 : Int32} {x2 : Int32} {x3 : Int32} {vl0 vc0 vs0 : Nat} {P0 : Option Value → mm_W → mm_F → Prop} (hl0 : vl0 < lev) (hu0 : ca + vc0 ≤ kc) (hz0 : sa + vs0 ≤ ks) (m0 : mm_C E y_TS_has b_TS_has 2 (some .boolean) vl0 vc0 vs0 [mm_rf E 2, .int x1] w f P0) (k1 : ∀ (r : Option Value) (w1 : mm_W) (f1 : mm_F), P0 r w1 f1 → mm_go E Γ 5 8 [(0, mm_rf E 1), (1, .int x1), (2, .int x2), (3, .int x3)] (r.toList ++ []) w1 f1 (ca + vc0) (sa + vs0)) : mm_go E Γ 5 0 [(0, mm_rf E 1), (1, .int x1), (2, .int x2), (3, .int x3)] [] w f ca sa := by
  refine mm_aload_n h d_PT_cell_0 0 rfl rfl ?_
  refine mm_getr h fl_PT_12 rfl (is_PT hw) (rf_PT_tables hw) (is_TS hw).1 d_PT_cell_1 ?_
  refine mm_iload_n h d_PT_cell_4 1 rfl rfl ?_
  exact mm_callV (As := [.int x1]) (rest := []) h m0 cv_PT_54 cm_TS_has hl0 (q0 := _) rfl rfl (is_TS hw) hu0 hz0 rfl rfl (Nat.le_of_ble_eq_true rfl) d_PT_cell_5 (fun r w1 f1 hp => k1 r w1 f1 hp)
theorem s_PT_cell_8 {E : mm_E} {Γ : mm_G} {lev kc ks ca sa : Nat} {w : mm_W} {f : mm_F} (h : mm_ok E Γ b_PT_cell 5 "PlannedTables" lev kc ks) (hw : mm_sh w) {x1 : Int32} {x2 : Int32} {x3 : Int32} {xk0 : Int32} (k0 : xk0 = 0 → mm_go E Γ 5 27 [(0, mm_rf E 1), (1, .int x1), (2, .int x2), (3, .int x3)] [] w f ca sa) (b1 : ¬ xk0 = 0 → vp_in x1 4) {vl0 vc0 vs0 : Nat} {P0 : Option Value → mm_W → mm_F → Prop} (hl0 : vl0 < lev) (hu0 : ca + vc0 ≤ kc) (hz0 : sa + vs0 ≤ ks) (m2 : ¬ xk0 = 0 → mm_C E y_TB_hasColumn b_TB_hasColumn 2 (some .boolean) vl0 vc0 vs0 [mm_rf E (4 + 12 * (x1).toNatClampNeg), .int x3] w f P0) (k3 : ¬ xk0 = 0 → ∀ (r : Option Value) (w1 : mm_W) (f1 : mm_F), P0 r w1 f1 → mm_go E Γ 5 24 [(0, mm_rf E 1), (1, .int x1), (2, .int x2), (3, .int x3)] (r.toList ++ []) w1 f1 (ca + vc0) (sa + vs0)) : mm_go E Γ 5 8 [(0, mm_rf E 1), (1, .int x1), (2, .int x2), (3, .int x3)] [.int xk0] w f ca sa := by
  refine mm_if_eq h d_PT_cell_8 (tgt := 27) (by decide) (fun c1 => ?_) (fun c1 => ?_)
  · skip
    exact (k0 c1)
  · skip
    refine mm_aload_n h d_PT_cell_11 0 rfl rfl ?_
    refine mm_getr h fl_PT_12 rfl (is_PT hw) (rf_PT_tables hw) (is_TS hw).1 d_PT_cell_12 ?_
    refine mm_getr h fl_PT_58 rfl (is_TS hw) (rf_TS_all hw) (is_TA hw).1.1 d_PT_cell_15 ?_
    refine mm_iload_n h d_PT_cell_18 1 rfl rfl ?_
    refine mm_aald h 4 rfl rfl rfl (fun _ => rfl) (is_TA hw) (b1 c1) (ra_TA hw (mm_in_lt (b1 c1))) (is_T hw (mm_in_lt (b1 c1))).1 d_PT_cell_19 ?_
    refine mm_iload_n h d_PT_cell_20 3 rfl rfl ?_
    exact mm_callV (As := [.int x3]) (rest := []) h (m2 c1) cv_PT_62 cm_TB_hasColumn hl0 (q0 := _) rfl rfl (is_T hw (mm_in_lt (b1 c1))) hu0 hz0 rfl rfl (Nat.le_of_ble_eq_true rfl) d_PT_cell_21 (fun r w1 f1 hp => (k3 c1) r w1 f1 hp)
theorem s_PT_cell_24 {E : mm_E} {Γ : mm_G} {lev kc ks ca sa : Nat} {w : mm_W} {f : mm_F} (h : mm_ok E Γ b_PT_cell 5 "PlannedTables" lev kc ks) (hw : mm_sh w) {x1 : Int32} {x2 : Int32} {x3 : Int32} {xk0 : Int32} (b0 : ¬ xk0 = 0 → vp_in x1 4) {vl0 vc0 vs0 : Nat} {P0 : Option Value → mm_W → mm_F → Prop} (hl0 : vl0 < lev) (hu0 : ca + vc0 ≤ kc) (hz0 : sa + vs0 ≤ ks) (m1 : ¬ xk0 = 0 → mm_C E y_TB_slotOf b_TB_slotOf 3 (some .int) vl0 vc0 vs0 [mm_rf E (4 + 12 * (x1).toNatClampNeg), .int x2] w f P0) (k2 : ¬ xk0 = 0 → ∀ (r : Option Value) (w1 : mm_W) (f1 : mm_F), P0 r w1 f1 → mm_go E Γ 5 50 [(0, mm_rf E 1), (1, .int x1), (2, .int x2), (3, .int x3)] (r.toList ++ []) w1 f1 (ca + vc0) (sa + vs0)) (k3 : xk0 = 0 → mm_go E Γ 5 27 [(0, mm_rf E 1), (1, .int x1), (2, .int x2), (3, .int x3)] [] w f ca sa) : mm_go E Γ 5 24 [(0, mm_rf E 1), (1, .int x1), (2, .int x2), (3, .int x3)] [.int xk0] w f ca sa := by
  refine mm_if_ne h d_PT_cell_24 (tgt := 37) (by decide) (fun c1 => ?_) (fun c1 => ?_)
  · skip
    refine mm_aload_n h d_PT_cell_37 0 rfl rfl ?_
    refine mm_getr h fl_PT_12 rfl (is_PT hw) (rf_PT_tables hw) (is_TS hw).1 d_PT_cell_38 ?_
    refine mm_getr h fl_PT_58 rfl (is_TS hw) (rf_TS_all hw) (is_TA hw).1.1 d_PT_cell_41 ?_
    refine mm_iload_n h d_PT_cell_44 1 rfl rfl ?_
    refine mm_aald h 4 rfl rfl rfl (fun _ => rfl) (is_TA hw) (b0 c1) (ra_TA hw (mm_in_lt (b0 c1))) (is_T hw (mm_in_lt (b0 c1))).1 d_PT_cell_45 ?_
    refine mm_iload_n h d_PT_cell_46 2 rfl rfl ?_
    exact mm_callV (As := [.int x2]) (rest := []) h (m1 c1) cv_PT_78 cm_TB_slotOf hl0 (q0 := _) rfl rfl (is_T hw (mm_in_lt (b0 c1))) hu0 hz0 rfl rfl (Nat.le_of_ble_eq_true rfl) d_PT_cell_47 (fun r w1 f1 hp => (k2 c1) r w1 f1 hp)
  · skip
    exact (k3 c1)
theorem s_PT_cell_50 {E : mm_E} {Γ : mm_G} {lev kc ks ca sa : Nat} {w : mm_W} {f : mm_F} {Post : Option Value → mm_W → mm_F → Prop} (h : mm_ok E Γ b_PT_cell 5 "PlannedTables" lev kc ks) (he : mm_end E Γ (some .int) kc ks Post y_PT_cell.name) (hca : ca ≤ kc) (hsa : sa ≤ ks) (hw : mm_sh w) {x1 : Int32} {x2 : Int32} {x3 : Int32} {xk0 : Int32} (b0 : ¬ xk0 = (-1) → vp_in x1 4) (b1 : ¬ xk0 = (-1) → vp_in x3 4) (b2 : ¬ xk0 = (-1) → vp_in xk0 48) (k3 : ¬ xk0 = (-1) → Post (some (.int (f (7 + 12 * (x1).toNatClampNeg + (x3).toNatClampNeg) (xk0).toNatClampNeg))) w f) (k4 : xk0 = (-1) → mm_go E Γ 5 58 [(0, mm_rf E 1), (1, .int x1), (2, .int x2), (3, .int x3), (4, .int xk0)] [] w f ca sa) : mm_go E Γ 5 50 [(0, mm_rf E 1), (1, .int x1), (2, .int x2), (3, .int x3)] [.int xk0] w f ca sa := by
  refine mm_istore (lv' := [(4, .int xk0), (0, mm_rf E 1), (1, .int x1), (2, .int x2), (3, .int x3)]) h d_PT_cell_50 (by decide) rfl ?_
  refine mm_iload h d_PT_cell_52 0 rfl ?_
  refine mm_iconst (v := (-1)) h d_PT_cell_54 (by decide) ?_
  refine mm_icmp_ne h d_PT_cell_55 (tgt := 68) (by decide) (fun c1 => ?_) (fun c1 => ?_)
  · skip
    refine mm_aload_n h d_PT_cell_68 1 rfl rfl ?_
    refine mm_getr h fl_PT_12 rfl (is_PT hw) (rf_PT_tables hw) (is_TS hw).1 d_PT_cell_69 ?_
    refine mm_getr h fl_PT_58 rfl (is_TS hw) (rf_TS_all hw) (is_TA hw).1.1 d_PT_cell_72 ?_
    refine mm_iload_n h d_PT_cell_75 2 rfl rfl ?_
    refine mm_aald h 4 rfl rfl rfl (fun _ => rfl) (is_TA hw) (b0 c1) (ra_TA hw (mm_in_lt (b0 c1))) (is_T hw (mm_in_lt (b0 c1))).1 d_PT_cell_76 ?_
    refine mm_getr h fl_PT_108 rfl (is_T hw (mm_in_lt (b0 c1))) (rf_T_cells hw (mm_in_lt (b0 c1))) (is_TC hw (mm_in_lt (b0 c1))).1.1 d_PT_cell_77 ?_
    refine mm_iload_n h d_PT_cell_80 4 rfl rfl ?_
    refine mm_aald h 3 rfl rfl rfl (fun _ => rfl) (is_TC hw (mm_in_lt (b0 c1))) (b1 c1) (ra_TC hw (mm_in_lt (b0 c1)) (mm_in_lt (b1 c1))) (is_TK hw (mm_in_lt (b0 c1)) (mm_in_lt (b1 c1))).1.1 d_PT_cell_81 ?_
    refine mm_iload h d_PT_cell_82 0 rfl ?_
    refine mm_iald h (is_TK hw (mm_in_lt (b0 c1)) (mm_in_lt (b1 c1))) (b2 c1) d_PT_cell_84 ?_
    exact mm_iret h he rfl d_PT_cell_85 hca hsa (k3 c1)
  · skip
    refine mm_sub [1, 2, 3, 4, 0] rfl ?_
    exact (k4 c1)
theorem d_PT_keyFrom_0 : decode b_PT_keyFrom 0 = .ok (.aload_n 0, 1) := by decide +kernel
theorem d_PT_keyFrom_1 : decode b_PT_keyFrom 1 = .ok (.getfield 12, 3) := by decide +kernel
theorem d_PT_keyFrom_4 : decode b_PT_keyFrom 4 = .ok (.iload_n 1, 1) := by decide +kernel
theorem d_PT_keyFrom_5 : decode b_PT_keyFrom 5 = .ok (.invokevirtual 54, 3) := by decide +kernel
theorem d_PT_keyFrom_8 : decode b_PT_keyFrom 8 = .ok (.ifCond .ne (13), 3) := by decide +kernel
theorem d_PT_keyFrom_11 : decode b_PT_keyFrom 11 = .ok (.new 67, 3) := by decide +kernel
theorem d_PT_keyFrom_14 : decode b_PT_keyFrom 14 = .ok (.dup, 1) := by decide +kernel
theorem d_PT_keyFrom_15 : decode b_PT_keyFrom 15 = .ok (.ldc 76, 2) := by decide +kernel
theorem d_PT_keyFrom_17 : decode b_PT_keyFrom 17 = .ok (.invokespecial 71, 3) := by decide +kernel
theorem d_PT_keyFrom_20 : decode b_PT_keyFrom 20 = .ok (.athrow, 1) := by decide +kernel
theorem d_PT_keyFrom_21 : decode b_PT_keyFrom 21 = .ok (.aload_n 0, 1) := by decide +kernel
theorem d_PT_keyFrom_22 : decode b_PT_keyFrom 22 = .ok (.getfield 12, 3) := by decide +kernel
theorem d_PT_keyFrom_25 : decode b_PT_keyFrom 25 = .ok (.getfield 58, 3) := by decide +kernel
theorem d_PT_keyFrom_28 : decode b_PT_keyFrom 28 = .ok (.iload_n 1, 1) := by decide +kernel
theorem d_PT_keyFrom_29 : decode b_PT_keyFrom 29 = .ok (.aaload, 1) := by decide +kernel
theorem d_PT_keyFrom_30 : decode b_PT_keyFrom 30 = .ok (.iconst (0), 1) := by decide +kernel
theorem d_PT_keyFrom_31 : decode b_PT_keyFrom 31 = .ok (.iload_n 2, 1) := by decide +kernel
theorem d_PT_keyFrom_32 : decode b_PT_keyFrom 32 = .ok (.invokevirtual 112, 3) := by decide +kernel
theorem d_PT_keyFrom_35 : decode b_PT_keyFrom 35 = .ok (.istore_n 3, 1) := by decide +kernel
theorem d_PT_keyFrom_36 : decode b_PT_keyFrom 36 = .ok (.iload_n 3, 1) := by decide +kernel
theorem d_PT_keyFrom_37 : decode b_PT_keyFrom 37 = .ok (.aload_n 0, 1) := by decide +kernel
theorem d_PT_keyFrom_38 : decode b_PT_keyFrom 38 = .ok (.getfield 12, 3) := by decide +kernel
theorem d_PT_keyFrom_41 : decode b_PT_keyFrom 41 = .ok (.getfield 58, 3) := by decide +kernel
theorem d_PT_keyFrom_44 : decode b_PT_keyFrom 44 = .ok (.iload_n 1, 1) := by decide +kernel
theorem d_PT_keyFrom_45 : decode b_PT_keyFrom 45 = .ok (.aaload, 1) := by decide +kernel
theorem d_PT_keyFrom_46 : decode b_PT_keyFrom 46 = .ok (.getfield 96, 3) := by decide +kernel
theorem d_PT_keyFrom_49 : decode b_PT_keyFrom 49 = .ok (.if_icmp .lt (13), 3) := by decide +kernel
theorem d_PT_keyFrom_52 : decode b_PT_keyFrom 52 = .ok (.new 99, 3) := by decide +kernel
theorem d_PT_keyFrom_55 : decode b_PT_keyFrom 55 = .ok (.dup, 1) := by decide +kernel
theorem d_PT_keyFrom_56 : decode b_PT_keyFrom 56 = .ok (.ldc 116, 2) := by decide +kernel
theorem d_PT_keyFrom_58 : decode b_PT_keyFrom 58 = .ok (.invokespecial 103, 3) := by decide +kernel
theorem d_PT_keyFrom_61 : decode b_PT_keyFrom 61 = .ok (.athrow, 1) := by decide +kernel
theorem d_PT_keyFrom_62 : decode b_PT_keyFrom 62 = .ok (.aload_n 0, 1) := by decide +kernel
theorem d_PT_keyFrom_63 : decode b_PT_keyFrom 63 = .ok (.getfield 12, 3) := by decide +kernel
theorem d_PT_keyFrom_66 : decode b_PT_keyFrom 66 = .ok (.getfield 58, 3) := by decide +kernel
theorem d_PT_keyFrom_69 : decode b_PT_keyFrom 69 = .ok (.iload_n 1, 1) := by decide +kernel
theorem d_PT_keyFrom_70 : decode b_PT_keyFrom 70 = .ok (.aaload, 1) := by decide +kernel
theorem d_PT_keyFrom_71 : decode b_PT_keyFrom 71 = .ok (.iconst (0), 1) := by decide +kernel
theorem d_PT_keyFrom_72 : decode b_PT_keyFrom 72 = .ok (.iload_n 3, 1) := by decide +kernel
theorem d_PT_keyFrom_73 : decode b_PT_keyFrom 73 = .ok (.invokevirtual 118, 3) := by decide +kernel
theorem d_PT_keyFrom_76 : decode b_PT_keyFrom 76 = .ok (.ireturn, 1) := by decide +kernel
theorem s_PT_keyFrom_0 {E : mm_E} {Γ : mm_G} {lev kc ks ca sa : Nat} {w : mm_W} {f : mm_F} (h : mm_ok E Γ b_PT_keyFrom 4 "PlannedTables" lev kc ks) (hw : mm_sh w) {x1 : Int32} {x2 : Int32} {vl0 vc0 vs0 : Nat} {P0 : Option Value → mm_W → mm_F → Prop} (hl0 : vl0 < lev) (hu0 : ca + vc0 ≤ kc) (hz0 : sa + vs0 ≤ ks) (m0 : mm_C E y_TS_has b_TS_has 2 (some .boolean) vl0 vc0 vs0 [mm_rf E 2, .int x1] w f P0) (k1 : ∀ (r : Option Value) (w1 : mm_W) (f1 : mm_F), P0 r w1 f1 → mm_go E Γ 4 8 [(0, mm_rf E 1), (1, .int x1), (2, .int x2)] (r.toList ++ []) w1 f1 (ca + vc0) (sa + vs0)) : mm_go E Γ 4 0 [(0, mm_rf E 1), (1, .int x1), (2, .int x2)] [] w f ca sa := by
  refine mm_aload_n h d_PT_keyFrom_0 0 rfl rfl ?_
  refine mm_getr h fl_PT_12 rfl (is_PT hw) (rf_PT_tables hw) (is_TS hw).1 d_PT_keyFrom_1 ?_
  refine mm_iload_n h d_PT_keyFrom_4 1 rfl rfl ?_
  exact mm_callV (As := [.int x1]) (rest := []) h m0 cv_PT_54 cm_TS_has hl0 (q0 := _) rfl rfl (is_TS hw) hu0 hz0 rfl rfl (Nat.le_of_ble_eq_true rfl) d_PT_keyFrom_5 (fun r w1 f1 hp => k1 r w1 f1 hp)
theorem s_PT_keyFrom_8 {E : mm_E} {Γ : mm_G} {lev kc ks ca sa : Nat} {w : mm_W} {f : mm_F} (h : mm_ok E Γ b_PT_keyFrom 4 "PlannedTables" lev kc ks) (hw : mm_sh w) {x1 : Int32} {x2 : Int32} {xk0 : Int32} (b0 : ¬ xk0 = 0 → vp_in x1 4) {vl0 vc0 vs0 : Nat} {P0 : Option Value → mm_W → mm_F → Prop} (hl0 : vl0 < lev) (hu0 : ca + vc0 ≤ kc) (hz0 : sa + vs0 ≤ ks) (m1 : ¬ xk0 = 0 → mm_C E y_TB_placeFrom b_TB_placeFrom 5 (some .int) vl0 vc0 vs0 [mm_rf E (4 + 12 * (x1).toNatClampNeg), .int 0, .int x2] w f P0) (k2 : ¬ xk0 = 0 → ∀ (r : Option Value) (w1 : mm_W) (f1 : mm_F), P0 r w1 f1 → mm_go E Γ 4 35 [(0, mm_rf E 1), (1, .int x1), (2, .int x2)] (r.toList ++ []) w1 f1 (ca + vc0) (sa + vs0)) (k3 : xk0 = 0 → mm_go E Γ 4 11 [(0, mm_rf E 1), (1, .int x1), (2, .int x2)] [] w f ca sa) : mm_go E Γ 4 8 [(0, mm_rf E 1), (1, .int x1), (2, .int x2)] [.int xk0] w f ca sa := by
  refine mm_if_ne h d_PT_keyFrom_8 (tgt := 21) (by decide) (fun c1 => ?_) (fun c1 => ?_)
  · skip
    refine mm_aload_n h d_PT_keyFrom_21 0 rfl rfl ?_
    refine mm_getr h fl_PT_12 rfl (is_PT hw) (rf_PT_tables hw) (is_TS hw).1 d_PT_keyFrom_22 ?_
    refine mm_getr h fl_PT_58 rfl (is_TS hw) (rf_TS_all hw) (is_TA hw).1.1 d_PT_keyFrom_25 ?_
    refine mm_iload_n h d_PT_keyFrom_28 1 rfl rfl ?_
    refine mm_aald h 4 rfl rfl rfl (fun _ => rfl) (is_TA hw) (b0 c1) (ra_TA hw (mm_in_lt (b0 c1))) (is_T hw (mm_in_lt (b0 c1))).1 d_PT_keyFrom_29 ?_
    refine mm_iconst (v := 0) h d_PT_keyFrom_30 (by decide) ?_
    refine mm_iload_n h d_PT_keyFrom_31 2 rfl rfl ?_
    exact mm_callV (As := [.int 0, .int x2]) (rest := []) h (m1 c1) cv_PT_112 cm_TB_placeFrom hl0 (q0 := _) rfl rfl (is_T hw (mm_in_lt (b0 c1))) hu0 hz0 rfl rfl (Nat.le_of_ble_eq_true rfl) d_PT_keyFrom_32 (fun r w1 f1 hp => (k2 c1) r w1 f1 hp)
  · skip
    exact (k3 c1)
theorem s_PT_keyFrom_35 {E : mm_E} {Γ : mm_G} {lev kc ks ca sa : Nat} {w : mm_W} {f : mm_F} (h : mm_ok E Γ b_PT_keyFrom 4 "PlannedTables" lev kc ks) (hw : mm_sh w) {x1 : Int32} {x2 : Int32} {xk0 : Int32} (b0 : vp_in x1 4) {vl0 vc0 vs0 : Nat} {P0 : Option Value → mm_W → mm_F → Prop} (hl0 : vl0 < lev) (hu0 : ca + vc0 ≤ kc) (hz0 : sa + vs0 ≤ ks) (m1 : xk0 < (f (4 + 12 * (x1).toNatClampNeg) 1) → mm_C E y_TB_cellAt b_TB_cellAt 3 (some .int) vl0 vc0 vs0 [mm_rf E (4 + 12 * (x1).toNatClampNeg), .int 0, .int xk0] w f P0) (k2 : xk0 < (f (4 + 12 * (x1).toNatClampNeg) 1) → ∀ (r : Option Value) (w1 : mm_W) (f1 : mm_F), P0 r w1 f1 → mm_go E Γ 4 76 [(0, mm_rf E 1), (1, .int x1), (2, .int x2), (3, .int xk0)] (r.toList ++ []) w1 f1 (ca + vc0) (sa + vs0)) (k3 : ¬ xk0 < (f (4 + 12 * (x1).toNatClampNeg) 1) → mm_go E Γ 4 52 [(0, mm_rf E 1), (1, .int x1), (2, .int x2), (3, .int xk0)] [] w f ca sa) : mm_go E Γ 4 35 [(0, mm_rf E 1), (1, .int x1), (2, .int x2)] [.int xk0] w f ca sa := by
  refine mm_istore_n (lv' := [(3, .int xk0), (0, mm_rf E 1), (1, .int x1), (2, .int x2)]) h d_PT_keyFrom_35 rfl (by decide) rfl ?_
  refine mm_iload_n h d_PT_keyFrom_36 0 rfl rfl ?_
  refine mm_aload_n h d_PT_keyFrom_37 1 rfl rfl ?_
  refine mm_getr h fl_PT_12 rfl (is_PT hw) (rf_PT_tables hw) (is_TS hw).1 d_PT_keyFrom_38 ?_
  refine mm_getr h fl_PT_58 rfl (is_TS hw) (rf_TS_all hw) (is_TA hw).1.1 d_PT_keyFrom_41 ?_
  refine mm_iload_n h d_PT_keyFrom_44 2 rfl rfl ?_
  refine mm_aald h 4 rfl rfl rfl (fun _ => rfl) (is_TA hw) b0 (ra_TA hw (mm_in_lt b0)) (is_T hw (mm_in_lt b0)).1 d_PT_keyFrom_45 ?_
  refine mm_geti h fl_PT_96 rfl (is_T hw (mm_in_lt b0)) d_PT_keyFrom_46 ?_
  refine mm_icmp_lt h d_PT_keyFrom_49 (tgt := 62) (by decide) (fun c1 => ?_) (fun c1 => ?_)
  · skip
    refine mm_aload_n h d_PT_keyFrom_62 1 rfl rfl ?_
    refine mm_getr h fl_PT_12 rfl (is_PT hw) (rf_PT_tables hw) (is_TS hw).1 d_PT_keyFrom_63 ?_
    refine mm_getr h fl_PT_58 rfl (is_TS hw) (rf_TS_all hw) (is_TA hw).1.1 d_PT_keyFrom_66 ?_
    refine mm_iload_n h d_PT_keyFrom_69 2 rfl rfl ?_
    refine mm_aald h 4 rfl rfl rfl (fun _ => rfl) (is_TA hw) b0 (ra_TA hw (mm_in_lt b0)) (is_T hw (mm_in_lt b0)).1 d_PT_keyFrom_70 ?_
    refine mm_iconst (v := 0) h d_PT_keyFrom_71 (by decide) ?_
    refine mm_iload_n h d_PT_keyFrom_72 0 rfl rfl ?_
    exact mm_callV (As := [.int 0, .int xk0]) (rest := []) h (m1 c1) cv_PT_118 cm_TB_cellAt hl0 (q0 := _) rfl rfl (is_T hw (mm_in_lt b0)) hu0 hz0 rfl rfl (Nat.le_of_ble_eq_true rfl) d_PT_keyFrom_73 (fun r w1 f1 hp => mm_sub [1, 2, 3, 0] rfl ((k2 c1) r w1 f1 hp))
  · skip
    refine mm_sub [1, 2, 3, 0] rfl ?_
    exact (k3 c1)
theorem s_PT_keyFrom_76 {E : mm_E} {Γ : mm_G} {lev kc ks ca sa : Nat} {w : mm_W} {f : mm_F} {Post : Option Value → mm_W → mm_F → Prop} (h : mm_ok E Γ b_PT_keyFrom 4 "PlannedTables" lev kc ks) (he : mm_end E Γ (some .int) kc ks Post y_PT_keyFrom.name) (hca : ca ≤ kc) (hsa : sa ≤ ks) (hw : mm_sh w) {x1 : Int32} {x2 : Int32} {x3 : Int32} {xk0 : Int32} (k0 : Post (some (.int xk0)) w f) : mm_go E Γ 4 76 [(0, mm_rf E 1), (1, .int x1), (2, .int x2), (3, .int x3)] [.int xk0] w f ca sa := by
  exact mm_iret h he rfl d_PT_keyFrom_76 hca hsa k0
theorem d_PT_rows_0 : decode b_PT_rows 0 = .ok (.aload_n 0, 1) := by decide +kernel
theorem d_PT_rows_1 : decode b_PT_rows 1 = .ok (.getfield 12, 3) := by decide +kernel
theorem d_PT_rows_4 : decode b_PT_rows 4 = .ok (.iload_n 1, 1) := by decide +kernel
theorem d_PT_rows_5 : decode b_PT_rows 5 = .ok (.invokevirtual 54, 3) := by decide +kernel
theorem d_PT_rows_8 : decode b_PT_rows 8 = .ok (.ifCond .eq (18), 3) := by decide +kernel
theorem d_PT_rows_11 : decode b_PT_rows 11 = .ok (.aload_n 0, 1) := by decide +kernel
theorem d_PT_rows_12 : decode b_PT_rows 12 = .ok (.getfield 12, 3) := by decide +kernel
theorem d_PT_rows_15 : decode b_PT_rows 15 = .ok (.getfield 58, 3) := by decide +kernel
theorem d_PT_rows_18 : decode b_PT_rows 18 = .ok (.iload_n 1, 1) := by decide +kernel
theorem d_PT_rows_19 : decode b_PT_rows 19 = .ok (.aaload, 1) := by decide +kernel
theorem d_PT_rows_20 : decode b_PT_rows 20 = .ok (.getfield 96, 3) := by decide +kernel
theorem d_PT_rows_23 : decode b_PT_rows 23 = .ok (.goto (4), 3) := by decide +kernel
theorem d_PT_rows_26 : decode b_PT_rows 26 = .ok (.iconst (-1), 1) := by decide +kernel
theorem d_PT_rows_27 : decode b_PT_rows 27 = .ok (.ireturn, 1) := by decide +kernel
theorem s_PT_rows_0 {E : mm_E} {Γ : mm_G} {lev kc ks ca sa : Nat} {w : mm_W} {f : mm_F} (h : mm_ok E Γ b_PT_rows 2 "PlannedTables" lev kc ks) (hw : mm_sh w) {x1 : Int32} {vl0 vc0 vs0 : Nat} {P0 : Option Value → mm_W → mm_F → Prop} (hl0 : vl0 < lev) (hu0 : ca + vc0 ≤ kc) (hz0 : sa + vs0 ≤ ks) (m0 : mm_C E y_TS_has b_TS_has 2 (some .boolean) vl0 vc0 vs0 [mm_rf E 2, .int x1] w f P0) (k1 : ∀ (r : Option Value) (w1 : mm_W) (f1 : mm_F), P0 r w1 f1 → mm_go E Γ 2 8 [(0, mm_rf E 1), (1, .int x1)] (r.toList ++ []) w1 f1 (ca + vc0) (sa + vs0)) : mm_go E Γ 2 0 [(0, mm_rf E 1), (1, .int x1)] [] w f ca sa := by
  refine mm_aload_n h d_PT_rows_0 0 rfl rfl ?_
  refine mm_getr h fl_PT_12 rfl (is_PT hw) (rf_PT_tables hw) (is_TS hw).1 d_PT_rows_1 ?_
  refine mm_iload_n h d_PT_rows_4 1 rfl rfl ?_
  exact mm_callV (As := [.int x1]) (rest := []) h m0 cv_PT_54 cm_TS_has hl0 (q0 := _) rfl rfl (is_TS hw) hu0 hz0 rfl rfl (Nat.le_of_ble_eq_true rfl) d_PT_rows_5 (fun r w1 f1 hp => k1 r w1 f1 hp)
theorem s_PT_rows_8 {E : mm_E} {Γ : mm_G} {lev kc ks ca sa : Nat} {w : mm_W} {f : mm_F} (h : mm_ok E Γ b_PT_rows 2 "PlannedTables" lev kc ks) (hw : mm_sh w) {x1 : Int32} {xk0 : Int32} (k0 : xk0 = 0 → mm_go E Γ 2 27 [(0, mm_rf E 1), (1, .int x1)] [.int (-1)] w f ca sa) (b1 : ¬ xk0 = 0 → vp_in x1 4) (k2 : ¬ xk0 = 0 → mm_go E Γ 2 27 [(0, mm_rf E 1), (1, .int x1)] [.int (f (4 + 12 * (x1).toNatClampNeg) 1)] w f ca sa) : mm_go E Γ 2 8 [(0, mm_rf E 1), (1, .int x1)] [.int xk0] w f ca sa := by
  refine mm_if_eq h d_PT_rows_8 (tgt := 26) (by decide) (fun c1 => ?_) (fun c1 => ?_)
  · skip
    refine mm_iconst (v := (-1)) h d_PT_rows_26 (by decide) ?_
    exact (k0 c1)
  · skip
    refine mm_aload_n h d_PT_rows_11 0 rfl rfl ?_
    refine mm_getr h fl_PT_12 rfl (is_PT hw) (rf_PT_tables hw) (is_TS hw).1 d_PT_rows_12 ?_
    refine mm_getr h fl_PT_58 rfl (is_TS hw) (rf_TS_all hw) (is_TA hw).1.1 d_PT_rows_15 ?_
    refine mm_iload_n h d_PT_rows_18 1 rfl rfl ?_
    refine mm_aald h 4 rfl rfl rfl (fun _ => rfl) (is_TA hw) (b1 c1) (ra_TA hw (mm_in_lt (b1 c1))) (is_T hw (mm_in_lt (b1 c1))).1 d_PT_rows_19 ?_
    refine mm_geti h fl_PT_96 rfl (is_T hw (mm_in_lt (b1 c1))) d_PT_rows_20 ?_
    refine mm_goto h d_PT_rows_23 (tgt := 27) (by decide) ?_
    exact (k2 c1)
theorem s_PT_rows_27 {E : mm_E} {Γ : mm_G} {lev kc ks ca sa : Nat} {w : mm_W} {f : mm_F} {Post : Option Value → mm_W → mm_F → Prop} (h : mm_ok E Γ b_PT_rows 2 "PlannedTables" lev kc ks) (he : mm_end E Γ (some .int) kc ks Post y_PT_rows.name) (hca : ca ≤ kc) (hsa : sa ≤ ks) (hw : mm_sh w) {x1 : Int32} {xk0 : Int32} (k0 : Post (some (.int xk0)) w f) : mm_go E Γ 2 27 [(0, mm_rf E 1), (1, .int x1)] [.int xk0] w f ca sa := by
  exact mm_iret h he rfl d_PT_rows_27 hca hsa k0
theorem d_PT_word_0 : decode b_PT_word 0 = .ok (.aload_n 0, 1) := by decide +kernel
theorem d_PT_word_1 : decode b_PT_word 1 = .ok (.getfield 23, 3) := by decide +kernel
theorem d_PT_word_4 : decode b_PT_word 4 = .ok (.getfield 121, 3) := by decide +kernel
theorem d_PT_word_7 : decode b_PT_word 7 = .ok (.bipush (40), 2) := by decide +kernel
theorem d_PT_word_9 : decode b_PT_word 9 = .ok (.if_icmp .lt (5), 3) := by decide +kernel
theorem d_PT_word_12 : decode b_PT_word 12 = .ok (.iconst (0), 1) := by decide +kernel
theorem d_PT_word_13 : decode b_PT_word 13 = .ok (.ireturn, 1) := by decide +kernel
theorem d_PT_word_14 : decode b_PT_word 14 = .ok (.aload_n 0, 1) := by decide +kernel
theorem d_PT_word_15 : decode b_PT_word 15 = .ok (.getfield 23, 3) := by decide +kernel
theorem d_PT_word_18 : decode b_PT_word 18 = .ok (.getfield 124, 3) := by decide +kernel
theorem d_PT_word_21 : decode b_PT_word 21 = .ok (.aload_n 0, 1) := by decide +kernel
theorem d_PT_word_22 : decode b_PT_word 22 = .ok (.getfield 23, 3) := by decide +kernel
theorem d_PT_word_25 : decode b_PT_word 25 = .ok (.getfield 121, 3) := by decide +kernel
theorem d_PT_word_28 : decode b_PT_word 28 = .ok (.iload_n 1, 1) := by decide +kernel
theorem d_PT_word_29 : decode b_PT_word 29 = .ok (.iastore, 1) := by decide +kernel
theorem d_PT_word_30 : decode b_PT_word 30 = .ok (.aload_n 0, 1) := by decide +kernel
theorem d_PT_word_31 : decode b_PT_word 31 = .ok (.getfield 23, 3) := by decide +kernel
theorem d_PT_word_34 : decode b_PT_word 34 = .ok (.dup, 1) := by decide +kernel
theorem d_PT_word_35 : decode b_PT_word 35 = .ok (.getfield 121, 3) := by decide +kernel
theorem d_PT_word_38 : decode b_PT_word 38 = .ok (.iconst (1), 1) := by decide +kernel
theorem d_PT_word_39 : decode b_PT_word 39 = .ok (.iadd, 1) := by decide +kernel
theorem d_PT_word_40 : decode b_PT_word 40 = .ok (.putfield 121, 3) := by decide +kernel
theorem d_PT_word_43 : decode b_PT_word 43 = .ok (.iconst (1), 1) := by decide +kernel
theorem d_PT_word_44 : decode b_PT_word 44 = .ok (.ireturn, 1) := by decide +kernel
theorem s_PT_word_0 {E : mm_E} {Γ : mm_G} {lev kc ks ca sa : Nat} {w : mm_W} {f : mm_F} {Post : Option Value → mm_W → mm_F → Prop} (h : mm_ok E Γ b_PT_word 2 "PlannedTables" lev kc ks) (he : mm_end E Γ (some .boolean) kc ks Post y_PT_word.name) (hca : ca ≤ kc) (hsa : sa ≤ ks) (hw : mm_sh w) {x1 : Int32} (b0 : (f 53 1) < 40 → vp_in (f 53 1) 40) (k1 : (f 53 1) < 40 → Post (some (.int 1)) w (mm_up (mm_up f 54 ((f 53 1)).toNatClampNeg x1) 53 1 (((mm_up f 54 ((f 53 1)).toNatClampNeg x1) 53 1) + 1))) (k2 : ¬ (f 53 1) < 40 → Post (some (.int 0)) w f) : mm_go E Γ 2 0 [(0, mm_rf E 1), (1, .int x1)] [] w f ca sa := by
  refine mm_aload_n h d_PT_word_0 0 rfl rfl ?_
  refine mm_getr h fl_PT_23 rfl (is_PT hw) (rf_PT_plan hw) (is_PL hw).1 d_PT_word_1 ?_
  refine mm_geti h fl_PT_121 rfl (is_PL hw) d_PT_word_4 ?_
  refine mm_bipush (v := 40) h d_PT_word_7 (by decide) ?_
  refine mm_icmp_lt h d_PT_word_9 (tgt := 14) (by decide) (fun c1 => ?_) (fun c1 => ?_)
  · skip
    refine mm_aload_n h d_PT_word_14 0 rfl rfl ?_
    refine mm_getr h fl_PT_23 rfl (is_PT hw) (rf_PT_plan hw) (is_PL hw).1 d_PT_word_15 ?_
    refine mm_getr h fl_PT_124 rfl (is_PL hw) (rf_PL_words hw) (is_WD hw).1.1 d_PT_word_18 ?_
    refine mm_aload_n h d_PT_word_21 0 rfl rfl ?_
    refine mm_getr h fl_PT_23 rfl (is_PT hw) (rf_PT_plan hw) (is_PL hw).1 d_PT_word_22 ?_
    refine mm_geti h fl_PT_121 rfl (is_PL hw) d_PT_word_25 ?_
    refine mm_iload_n h d_PT_word_28 1 rfl rfl ?_
    refine mm_iast h (is_WD hw) (b0 c1) d_PT_word_29 ?_
    refine mm_aload_n h d_PT_word_30 0 rfl rfl ?_
    refine mm_getr h fl_PT_23 rfl (is_PT hw) (rf_PT_plan hw) (is_PL hw).1 d_PT_word_31 ?_
    refine mm_dup h d_PT_word_34 rfl ?_
    refine mm_geti h fl_PT_121 rfl (is_PL hw) d_PT_word_35 ?_
    refine mm_iconst (v := 1) h d_PT_word_38 (by decide) ?_
    refine mm_iadd h d_PT_word_39 ?_
    refine mm_puti h fl_PT_121 (Or.inl rfl) rfl rfl rfl (is_PL hw) d_PT_word_40 ?_
    refine mm_iconst (v := 1) h d_PT_word_43 (by decide) ?_
    exact mm_iret h he rfl d_PT_word_44 hca hsa (k1 c1)
  · skip
    refine mm_iconst (v := 0) h d_PT_word_12 (by decide) ?_
    exact mm_iret h he rfl d_PT_word_13 hca hsa (k2 c1)
theorem d_PT_clear_0 : decode b_PT_clear 0 = .ok (.aload_n 0, 1) := by decide +kernel
theorem d_PT_clear_1 : decode b_PT_clear 1 = .ok (.getfield 23, 3) := by decide +kernel
theorem d_PT_clear_4 : decode b_PT_clear 4 = .ok (.getfield 121, 3) := by decide +kernel
theorem d_PT_clear_7 : decode b_PT_clear 7 = .ok (.istore_n 1, 1) := by decide +kernel
theorem d_PT_clear_8 : decode b_PT_clear 8 = .ok (.aload_n 0, 1) := by decide +kernel
theorem d_PT_clear_9 : decode b_PT_clear 9 = .ok (.getfield 23, 3) := by decide +kernel
theorem d_PT_clear_12 : decode b_PT_clear 12 = .ok (.iconst (0), 1) := by decide +kernel
theorem d_PT_clear_13 : decode b_PT_clear 13 = .ok (.putfield 121, 3) := by decide +kernel
theorem d_PT_clear_16 : decode b_PT_clear 16 = .ok (.iload_n 1, 1) := by decide +kernel
theorem d_PT_clear_17 : decode b_PT_clear 17 = .ok (.ireturn, 1) := by decide +kernel
theorem s_PT_clear_0 {E : mm_E} {Γ : mm_G} {lev kc ks ca sa : Nat} {w : mm_W} {f : mm_F} {Post : Option Value → mm_W → mm_F → Prop} (h : mm_ok E Γ b_PT_clear 2 "PlannedTables" lev kc ks) (he : mm_end E Γ (some .int) kc ks Post y_PT_clear.name) (hca : ca ≤ kc) (hsa : sa ≤ ks) (hw : mm_sh w)  (k0 : Post (some (.int (f 53 1))) w (mm_up f 53 1 0)) : mm_go E Γ 2 0 [(0, mm_rf E 1)] [] w f ca sa := by
  refine mm_aload_n h d_PT_clear_0 0 rfl rfl ?_
  refine mm_getr h fl_PT_23 rfl (is_PT hw) (rf_PT_plan hw) (is_PL hw).1 d_PT_clear_1 ?_
  refine mm_geti h fl_PT_121 rfl (is_PL hw) d_PT_clear_4 ?_
  refine mm_istore_n (lv' := [(1, .int (f 53 1)), (0, mm_rf E 1)]) h d_PT_clear_7 rfl (by decide) rfl ?_
  refine mm_aload_n h d_PT_clear_8 1 rfl rfl ?_
  refine mm_getr h fl_PT_23 rfl (is_PT hw) (rf_PT_plan hw) (is_PL hw).1 d_PT_clear_9 ?_
  refine mm_iconst (v := 0) h d_PT_clear_12 (by decide) ?_
  refine mm_puti h fl_PT_121 (Or.inl rfl) rfl rfl rfl (is_PL hw) d_PT_clear_13 ?_
  refine mm_iload_n h d_PT_clear_16 0 rfl rfl ?_
  exact mm_iret h he rfl d_PT_clear_17 hca hsa k0
theorem d_PT_fault_0 : decode b_PT_fault 0 = .ok (.aload_n 0, 1) := by decide +kernel
theorem d_PT_fault_1 : decode b_PT_fault 1 = .ok (.getfield 23, 3) := by decide +kernel
theorem d_PT_fault_4 : decode b_PT_fault 4 = .ok (.aload_n 0, 1) := by decide +kernel
theorem d_PT_fault_5 : decode b_PT_fault 5 = .ok (.getfield 12, 3) := by decide +kernel
theorem d_PT_fault_8 : decode b_PT_fault 8 = .ok (.invokevirtual 127, 3) := by decide +kernel
theorem d_PT_fault_11 : decode b_PT_fault 11 = .ok (.aload_n 0, 1) := by decide +kernel
theorem d_PT_fault_12 : decode b_PT_fault 12 = .ok (.getfield 23, 3) := by decide +kernel
theorem d_PT_fault_15 : decode b_PT_fault 15 = .ok (.getfield 131, 3) := by decide +kernel
theorem d_PT_fault_18 : decode b_PT_fault 18 = .ok (.ireturn, 1) := by decide +kernel
theorem s_PT_fault_0 {E : mm_E} {Γ : mm_G} {lev kc ks ca sa : Nat} {w : mm_W} {f : mm_F} (h : mm_ok E Γ b_PT_fault 1 "PlannedTables" lev kc ks) (hw : mm_sh w)  {vl0 vc0 vs0 : Nat} {P0 : Option Value → mm_W → mm_F → Prop} (hl0 : vl0 < lev) (hu0 : ca + vc0 ≤ kc) (hz0 : sa + vs0 ≤ ks) (m0 : mm_C E y_PN_lookThrough b_PN_lookThrough 3 none vl0 vc0 vs0 [mm_rf E 53, mm_rf E 2] w f P0) (k1 : ∀ (r : Option Value) (w1 : mm_W) (f1 : mm_F), P0 r w1 f1 → mm_go E Γ 1 11 [(0, mm_rf E 1)] (r.toList ++ []) w1 f1 (ca + vc0) (sa + vs0)) : mm_go E Γ 1 0 [(0, mm_rf E 1)] [] w f ca sa := by
  refine mm_aload_n h d_PT_fault_0 0 rfl rfl ?_
  refine mm_getr h fl_PT_23 rfl (is_PT hw) (rf_PT_plan hw) (is_PL hw).1 d_PT_fault_1 ?_
  refine mm_aload_n h d_PT_fault_4 0 rfl rfl ?_
  refine mm_getr h fl_PT_12 rfl (is_PT hw) (rf_PT_tables hw) (is_TS hw).1 d_PT_fault_5 ?_
  exact mm_callV (As := [mm_rf E 2]) (rest := []) h m0 cv_PT_127 cm_PN_lookThrough hl0 (q0 := _) rfl rfl (is_PL hw) hu0 hz0 rfl rfl (Nat.le_of_ble_eq_true rfl) d_PT_fault_8 (fun r w1 f1 hp => k1 r w1 f1 hp)
theorem s_PT_fault_11 {E : mm_E} {Γ : mm_G} {lev kc ks ca sa : Nat} {w : mm_W} {f : mm_F} {Post : Option Value → mm_W → mm_F → Prop} (h : mm_ok E Γ b_PT_fault 1 "PlannedTables" lev kc ks) (he : mm_end E Γ (some .int) kc ks Post y_PT_fault.name) (hca : ca ≤ kc) (hsa : sa ≤ ks) (hw : mm_sh w)  (k0 : Post (some (.int (f 53 2))) w f) : mm_go E Γ 1 11 [(0, mm_rf E 1)] [] w f ca sa := by
  refine mm_aload_n h d_PT_fault_11 0 rfl rfl ?_
  refine mm_getr h fl_PT_23 rfl (is_PT hw) (rf_PT_plan hw) (is_PL hw).1 d_PT_fault_12 ?_
  refine mm_geti h fl_PT_131 rfl (is_PL hw) d_PT_fault_15 ?_
  exact mm_iret h he rfl d_PT_fault_18 hca hsa k0
theorem d_PT_run_0 : decode b_PT_run 0 = .ok (.aload_n 0, 1) := by decide +kernel
theorem d_PT_run_1 : decode b_PT_run 1 = .ok (.getfield 30, 3) := by decide +kernel
theorem d_PT_run_4 : decode b_PT_run 4 = .ok (.invokevirtual 134, 3) := by decide +kernel
theorem d_PT_run_7 : decode b_PT_run 7 = .ok (.aload_n 0, 1) := by decide +kernel
theorem d_PT_run_8 : decode b_PT_run 8 = .ok (.getfield 23, 3) := by decide +kernel
theorem d_PT_run_11 : decode b_PT_run 11 = .ok (.aload_n 0, 1) := by decide +kernel
theorem d_PT_run_12 : decode b_PT_run 12 = .ok (.getfield 12, 3) := by decide +kernel
theorem d_PT_run_15 : decode b_PT_run 15 = .ok (.invokevirtual 127, 3) := by decide +kernel
theorem d_PT_run_18 : decode b_PT_run 18 = .ok (.aload_n 0, 1) := by decide +kernel
theorem d_PT_run_19 : decode b_PT_run 19 = .ok (.getfield 23, 3) := by decide +kernel
theorem d_PT_run_22 : decode b_PT_run 22 = .ok (.getfield 131, 3) := by decide +kernel
theorem d_PT_run_25 : decode b_PT_run 25 = .ok (.iconst (-1), 1) := by decide +kernel
theorem d_PT_run_26 : decode b_PT_run 26 = .ok (.if_icmp .ne (7), 3) := by decide +kernel
theorem d_PT_run_29 : decode b_PT_run 29 = .ok (.iload_n 1, 1) := by decide +kernel
theorem d_PT_run_30 : decode b_PT_run 30 = .ok (.ifCond .ge (13), 3) := by decide +kernel
theorem d_PT_run_33 : decode b_PT_run 33 = .ok (.new 34, 3) := by decide +kernel
theorem d_PT_run_36 : decode b_PT_run 36 = .ok (.dup, 1) := by decide +kernel
theorem d_PT_run_37 : decode b_PT_run 37 = .ok (.ldc 137, 2) := by decide +kernel
theorem d_PT_run_39 : decode b_PT_run 39 = .ok (.invokespecial 38, 3) := by decide +kernel
theorem d_PT_run_42 : decode b_PT_run 42 = .ok (.athrow, 1) := by decide +kernel
theorem d_PT_run_43 : decode b_PT_run 43 = .ok (.new 139, 3) := by decide +kernel
theorem d_PT_run_46 : decode b_PT_run 46 = .ok (.dup, 1) := by decide +kernel
theorem d_PT_run_47 : decode b_PT_run 47 = .ok (.aload_n 0, 1) := by decide +kernel
theorem d_PT_run_48 : decode b_PT_run 48 = .ok (.getfield 12, 3) := by decide +kernel
theorem d_PT_run_51 : decode b_PT_run 51 = .ok (.aload_n 0, 1) := by decide +kernel
theorem d_PT_run_52 : decode b_PT_run 52 = .ok (.getfield 23, 3) := by decide +kernel
theorem d_PT_run_55 : decode b_PT_run 55 = .ok (.aload_n 0, 1) := by decide +kernel
theorem d_PT_run_56 : decode b_PT_run 56 = .ok (.getfield 30, 3) := by decide +kernel
theorem d_PT_run_59 : decode b_PT_run 59 = .ok (.iload_n 1, 1) := by decide +kernel
theorem d_PT_run_60 : decode b_PT_run 60 = .ok (.invokespecial 141, 3) := by decide +kernel
theorem d_PT_run_63 : decode b_PT_run 63 = .ok (.astore_n 2, 1) := by decide +kernel
theorem d_PT_run_64 : decode b_PT_run 64 = .ok (.aload_n 2, 1) := by decide +kernel
theorem d_PT_run_65 : decode b_PT_run 65 = .ok (.invokevirtual 144, 3) := by decide +kernel
theorem d_PT_run_68 : decode b_PT_run 68 = .ok (.istore_n 3, 1) := by decide +kernel
theorem d_PT_run_69 : decode b_PT_run 69 = .ok (.iload_n 3, 1) := by decide +kernel
theorem d_PT_run_70 : decode b_PT_run 70 = .ok (.iconst (2), 1) := by decide +kernel
theorem d_PT_run_71 : decode b_PT_run 71 = .ok (.if_icmp .eq (10), 3) := by decide +kernel
theorem d_PT_run_74 : decode b_PT_run 74 = .ok (.aload_n 0, 1) := by decide +kernel
theorem d_PT_run_75 : decode b_PT_run 75 = .ok (.getfield 30, 3) := by decide +kernel
theorem d_PT_run_78 : decode b_PT_run 78 = .ok (.invokevirtual 134, 3) := by decide +kernel
theorem d_PT_run_81 : decode b_PT_run 81 = .ok (.iload_n 3, 1) := by decide +kernel
theorem d_PT_run_82 : decode b_PT_run 82 = .ok (.iconst (3), 1) := by decide +kernel
theorem d_PT_run_83 : decode b_PT_run 83 = .ok (.if_icmp .ne (13), 3) := by decide +kernel
theorem d_PT_run_86 : decode b_PT_run 86 = .ok (.new 81, 3) := by decide +kernel
theorem d_PT_run_89 : decode b_PT_run 89 = .ok (.dup, 1) := by decide +kernel
theorem d_PT_run_90 : decode b_PT_run 90 = .ok (.ldc 147, 2) := by decide +kernel
theorem d_PT_run_92 : decode b_PT_run 92 = .ok (.invokespecial 85, 3) := by decide +kernel
theorem d_PT_run_95 : decode b_PT_run 95 = .ok (.athrow, 1) := by decide +kernel
theorem d_PT_run_96 : decode b_PT_run 96 = .ok (.iload_n 3, 1) := by decide +kernel
theorem d_PT_run_97 : decode b_PT_run 97 = .ok (.iconst (4), 1) := by decide +kernel
theorem d_PT_run_98 : decode b_PT_run 98 = .ok (.if_icmp .ne (13), 3) := by decide +kernel
theorem d_PT_run_101 : decode b_PT_run 101 = .ok (.new 45, 3) := by decide +kernel
theorem d_PT_run_104 : decode b_PT_run 104 = .ok (.dup, 1) := by decide +kernel
theorem d_PT_run_105 : decode b_PT_run 105 = .ok (.ldc 149, 2) := by decide +kernel
theorem d_PT_run_107 : decode b_PT_run 107 = .ok (.invokespecial 49, 3) := by decide +kernel
theorem d_PT_run_110 : decode b_PT_run 110 = .ok (.athrow, 1) := by decide +kernel
theorem d_PT_run_111 : decode b_PT_run 111 = .ok (.aload_n 0, 1) := by decide +kernel
theorem d_PT_run_112 : decode b_PT_run 112 = .ok (.aload_n 2, 1) := by decide +kernel
theorem d_PT_run_113 : decode b_PT_run 113 = .ok (.getfield 151, 3) := by decide +kernel
theorem d_PT_run_116 : decode b_PT_run 116 = .ok (.putfield 154, 3) := by decide +kernel
theorem d_PT_run_119 : decode b_PT_run 119 = .ok (.aload_n 0, 1) := by decide +kernel
theorem d_PT_run_120 : decode b_PT_run 120 = .ok (.getfield 30, 3) := by decide +kernel
theorem d_PT_run_123 : decode b_PT_run 123 = .ok (.getfield 157, 3) := by decide +kernel
theorem d_PT_run_126 : decode b_PT_run 126 = .ok (.ireturn, 1) := by decide +kernel
theorem s_PT_run_0 {E : mm_E} {Γ : mm_G} {lev kc ks ca sa : Nat} {w : mm_W} {f : mm_F} (h : mm_ok E Γ b_PT_run 4 "PlannedTables" lev kc ks) (hw : mm_sh w) {x1 : Int32} {vl0 vc0 vs0 : Nat} {P0 : Option Value → mm_W → mm_F → Prop} (hl0 : vl0 < lev) (hu0 : ca + vc0 ≤ kc) (hz0 : sa + vs0 ≤ ks) (m0 : mm_C E y_OP_empty b_OP_empty 1 none vl0 vc0 vs0 [mm_rf E 134] w f P0) (k1 : ∀ (r : Option Value) (w1 : mm_W) (f1 : mm_F), P0 r w1 f1 → mm_go E Γ 4 7 [(0, mm_rf E 1), (1, .int x1)] (r.toList ++ []) w1 f1 (ca + vc0) (sa + vs0)) : mm_go E Γ 4 0 [(0, mm_rf E 1), (1, .int x1)] [] w f ca sa := by
  refine mm_aload_n h d_PT_run_0 0 rfl rfl ?_
  refine mm_getr h fl_PT_30 rfl (is_PT hw) (rf_PT_output hw) (is_OU hw).1 d_PT_run_1 ?_
  exact mm_callV (As := []) (rest := []) h m0 cv_PT_134 cm_OP_empty hl0 (q0 := _) rfl rfl (is_OU hw) hu0 hz0 rfl rfl (Nat.le_of_ble_eq_true rfl) d_PT_run_4 (fun r w1 f1 hp => k1 r w1 f1 hp)
theorem s_PT_run_7 {E : mm_E} {Γ : mm_G} {lev kc ks ca sa : Nat} {w : mm_W} {f : mm_F} (h : mm_ok E Γ b_PT_run 4 "PlannedTables" lev kc ks) (hw : mm_sh w) {x1 : Int32} {vl0 vc0 vs0 : Nat} {P0 : Option Value → mm_W → mm_F → Prop} (hl0 : vl0 < lev) (hu0 : ca + vc0 ≤ kc) (hz0 : sa + vs0 ≤ ks) (m0 : mm_C E y_PN_lookThrough b_PN_lookThrough 3 none vl0 vc0 vs0 [mm_rf E 53, mm_rf E 2] w f P0) (k1 : ∀ (r : Option Value) (w1 : mm_W) (f1 : mm_F), P0 r w1 f1 → mm_go E Γ 4 18 [(0, mm_rf E 1), (1, .int x1)] (r.toList ++ []) w1 f1 (ca + vc0) (sa + vs0)) : mm_go E Γ 4 7 [(0, mm_rf E 1), (1, .int x1)] [] w f ca sa := by
  refine mm_aload_n h d_PT_run_7 0 rfl rfl ?_
  refine mm_getr h fl_PT_23 rfl (is_PT hw) (rf_PT_plan hw) (is_PL hw).1 d_PT_run_8 ?_
  refine mm_aload_n h d_PT_run_11 0 rfl rfl ?_
  refine mm_getr h fl_PT_12 rfl (is_PT hw) (rf_PT_tables hw) (is_TS hw).1 d_PT_run_12 ?_
  exact mm_callV (As := [mm_rf E 2]) (rest := []) h m0 cv_PT_127 cm_PN_lookThrough hl0 (q0 := _) rfl rfl (is_PL hw) hu0 hz0 rfl rfl (Nat.le_of_ble_eq_true rfl) d_PT_run_15 (fun r w1 f1 hp => k1 r w1 f1 hp)
theorem s_PT_run_18 {E : mm_E} {Γ : mm_G} {lev kc ks ca sa : Nat} {w : mm_W} {f : mm_F} (h : mm_ok E Γ b_PT_run 4 "PlannedTables" lev kc ks) (hw : mm_sh w) {x1 : Int32} (k0 : ¬ (f 53 2) = (-1) → mm_go E Γ 4 33 [(0, mm_rf E 1), (1, .int x1)] [] w f ca sa) (k1 : (f 53 2) = (-1) → 0 ≤ x1 → mm_go E Γ 4 43 [(0, mm_rf E 1), (1, .int x1)] [] w f ca sa) (k2 : (f 53 2) = (-1) → ¬ 0 ≤ x1 → mm_go E Γ 4 33 [(0, mm_rf E 1), (1, .int x1)] [] w f ca sa) : mm_go E Γ 4 18 [(0, mm_rf E 1), (1, .int x1)] [] w f ca sa := by
  refine mm_aload_n h d_PT_run_18 0 rfl rfl ?_
  refine mm_getr h fl_PT_23 rfl (is_PT hw) (rf_PT_plan hw) (is_PL hw).1 d_PT_run_19 ?_
  refine mm_geti h fl_PT_131 rfl (is_PL hw) d_PT_run_22 ?_
  refine mm_iconst (v := (-1)) h d_PT_run_25 (by decide) ?_
  refine mm_icmp_ne h d_PT_run_26 (tgt := 33) (by decide) (fun c1 => ?_) (fun c1 => ?_)
  · skip
    exact (k0 c1)
  · skip
    refine mm_iload_n h d_PT_run_29 1 rfl rfl ?_
    refine mm_if_ge h d_PT_run_30 (tgt := 43) (by decide) (fun c2 => ?_) (fun c2 => ?_)
    · skip
      exact (k1 c1 c2)
    · skip
      exact (k2 c1 c2)
theorem s_PT_run_63 {E : mm_E} {Γ : mm_G} {lev kc ks ca sa : Nat} {w : mm_W} {f : mm_F} (h : mm_ok E Γ b_PT_run 4 "PlannedTables" lev kc ks) (hw : mm_sh w) {x1 : Int32} {nk0 : Nat} (hnk0 : mm_run w nk0) {vl0 vc0 vs0 : Nat} {P0 : Option Value → mm_W → mm_F → Prop} (hl0 : vl0 < lev) (hu0 : ca + vc0 ≤ kc) (hz0 : sa + vs0 ≤ ks) (m0 : mm_C E y_RN_askForAll b_RN_askForAll 9 (some .int) vl0 vc0 vs0 [mm_rf E nk0] w f P0) (k1 : ∀ (r : Option Value) (w1 : mm_W) (f1 : mm_F), P0 r w1 f1 → mm_go E Γ 4 68 [(0, mm_rf E 1), (1, .int x1), (2, mm_rf E nk0)] (r.toList ++ []) w1 f1 (ca + vc0) (sa + vs0)) : mm_go E Γ 4 63 [(0, mm_rf E 1), (1, .int x1)] [mm_rf E nk0] w f ca sa := by
  refine mm_astore_n (lv' := [(2, mm_rf E nk0), (0, mm_rf E 1), (1, .int x1)]) h d_PT_run_63 rfl (by decide) rfl ?_
  refine mm_aload_n h d_PT_run_64 0 rfl rfl ?_
  exact mm_callV (As := []) (rest := []) h m0 cv_PT_144 cm_RN_askForAll hl0 (q0 := _) rfl rfl hnk0.2.1 hu0 hz0 rfl rfl (Nat.le_of_ble_eq_true rfl) d_PT_run_65 (fun r w1 f1 hp => mm_sub [1, 2, 0] rfl (k1 r w1 f1 hp))
theorem s_PT_run_68 {E : mm_E} {Γ : mm_G} {lev kc ks ca sa : Nat} {w : mm_W} {f : mm_F} (h : mm_ok E Γ b_PT_run 4 "PlannedTables" lev kc ks) (hw : mm_sh w) {x1 : Int32} {n2 : Nat} (hn2 : mm_run w n2) {xk0 : Int32} (k0 : xk0 = 2 → mm_go E Γ 4 81 [(0, mm_rf E 1), (1, .int x1), (2, mm_rf E n2), (3, .int xk0)] [] w f ca sa) {vl0 vc0 vs0 : Nat} {P0 : Option Value → mm_W → mm_F → Prop} (hl0 : vl0 < lev) (hu0 : ca + vc0 ≤ kc) (hz0 : sa + vs0 ≤ ks) (m1 : ¬ xk0 = 2 → mm_C E y_OP_empty b_OP_empty 1 none vl0 vc0 vs0 [mm_rf E 134] w f P0) (k2 : ¬ xk0 = 2 → ∀ (r : Option Value) (w1 : mm_W) (f1 : mm_F), P0 r w1 f1 → mm_go E Γ 4 81 [(0, mm_rf E 1), (1, .int x1), (2, mm_rf E n2), (3, .int xk0)] (r.toList ++ []) w1 f1 (ca + vc0) (sa + vs0)) : mm_go E Γ 4 68 [(0, mm_rf E 1), (1, .int x1), (2, mm_rf E n2)] [.int xk0] w f ca sa := by
  refine mm_istore_n (lv' := [(3, .int xk0), (0, mm_rf E 1), (1, .int x1), (2, mm_rf E n2)]) h d_PT_run_68 rfl (by decide) rfl ?_
  refine mm_iload_n h d_PT_run_69 0 rfl rfl ?_
  refine mm_iconst (v := 2) h d_PT_run_70 (by decide) ?_
  refine mm_icmp_eq h d_PT_run_71 (tgt := 81) (by decide) (fun c1 => ?_) (fun c1 => ?_)
  · skip
    refine mm_sub [1, 2, 3, 0] rfl ?_
    exact (k0 c1)
  · skip
    refine mm_aload_n h d_PT_run_74 1 rfl rfl ?_
    refine mm_getr h fl_PT_30 rfl (is_PT hw) (rf_PT_output hw) (is_OU hw).1 d_PT_run_75 ?_
    exact mm_callV (As := []) (rest := []) h (m1 c1) cv_PT_134 cm_OP_empty hl0 (q0 := _) rfl rfl (is_OU hw) hu0 hz0 rfl rfl (Nat.le_of_ble_eq_true rfl) d_PT_run_78 (fun r w1 f1 hp => mm_sub [1, 2, 3, 0] rfl ((k2 c1) r w1 f1 hp))
theorem s_PT_run_81 {E : mm_E} {Γ : mm_G} {lev kc ks ca sa : Nat} {w : mm_W} {f : mm_F} {Post : Option Value → mm_W → mm_F → Prop} (h : mm_ok E Γ b_PT_run 4 "PlannedTables" lev kc ks) (he : mm_end E Γ (some .int) kc ks Post y_PT_run.name) (hca : ca ≤ kc) (hsa : sa ≤ ks) (hw : mm_sh w) {x1 : Int32} {n2 : Nat} (hn2 : mm_run w n2) {x3 : Int32} (k0 : ¬ x3 = 3 → ¬ x3 = 4 → Post (some (.int ((mm_up f 1 4 (f n2 4)) 134 2))) w (mm_up f 1 4 (f n2 4))) (k1 : ¬ x3 = 3 → x3 = 4 → mm_go E Γ 4 101 [(0, mm_rf E 1), (1, .int x1), (2, mm_rf E n2), (3, .int x3)] [] w f ca sa) (k2 : x3 = 3 → mm_go E Γ 4 86 [(0, mm_rf E 1), (1, .int x1), (2, mm_rf E n2), (3, .int x3)] [] w f ca sa) : mm_go E Γ 4 81 [(0, mm_rf E 1), (1, .int x1), (2, mm_rf E n2), (3, .int x3)] [] w f ca sa := by
  refine mm_iload_n h d_PT_run_81 3 rfl rfl ?_
  refine mm_iconst (v := 3) h d_PT_run_82 (by decide) ?_
  refine mm_icmp_ne h d_PT_run_83 (tgt := 96) (by decide) (fun c1 => ?_) (fun c1 => ?_)
  · skip
    refine mm_iload_n h d_PT_run_96 3 rfl rfl ?_
    refine mm_iconst (v := 4) h d_PT_run_97 (by decide) ?_
    refine mm_icmp_ne h d_PT_run_98 (tgt := 111) (by decide) (fun c2 => ?_) (fun c2 => ?_)
    · skip
      refine mm_aload_n h d_PT_run_111 0 rfl rfl ?_
      refine mm_aload_n h d_PT_run_112 2 rfl rfl ?_
      refine mm_geti h fl_PT_151 rfl hn2.2.1 d_PT_run_113 ?_
      refine mm_puti h fl_PT_154 (Or.inl rfl) rfl rfl rfl (is_PT hw) d_PT_run_116 ?_
      refine mm_aload_n h d_PT_run_119 0 rfl rfl ?_
      refine mm_getr h fl_PT_30 rfl (is_PT hw) (rf_PT_output hw) (is_OU hw).1 d_PT_run_120 ?_
      refine mm_geti h fl_PT_157 rfl (is_OU hw) d_PT_run_123 ?_
      exact mm_iret h he rfl d_PT_run_126 hca hsa (k0 c1 c2)
    · skip
      exact (k1 c1 c2)
  · skip
    exact (k2 c1)
theorem d_PT_visits_0 : decode b_PT_visits 0 = .ok (.aload_n 0, 1) := by decide +kernel
theorem d_PT_visits_1 : decode b_PT_visits 1 = .ok (.getfield 154, 3) := by decide +kernel
theorem d_PT_visits_4 : decode b_PT_visits 4 = .ok (.ireturn, 1) := by decide +kernel
theorem s_PT_visits_0 {E : mm_E} {Γ : mm_G} {lev kc ks ca sa : Nat} {w : mm_W} {f : mm_F} {Post : Option Value → mm_W → mm_F → Prop} (h : mm_ok E Γ b_PT_visits 1 "PlannedTables" lev kc ks) (he : mm_end E Γ (some .int) kc ks Post y_PT_visits.name) (hca : ca ≤ kc) (hsa : sa ≤ ks) (hw : mm_sh w)  (k0 : Post (some (.int (f 1 4))) w f) : mm_go E Γ 1 0 [(0, mm_rf E 1)] [] w f ca sa := by
  refine mm_aload_n h d_PT_visits_0 0 rfl rfl ?_
  refine mm_geti h fl_PT_154 rfl (is_PT hw) d_PT_visits_1 ?_
  exact mm_iret h he rfl d_PT_visits_4 hca hsa k0
theorem d_PT_size_0 : decode b_PT_size 0 = .ok (.aload_n 0, 1) := by decide +kernel
theorem d_PT_size_1 : decode b_PT_size 1 = .ok (.getfield 30, 3) := by decide +kernel
theorem d_PT_size_4 : decode b_PT_size 4 = .ok (.getfield 158, 3) := by decide +kernel
theorem d_PT_size_7 : decode b_PT_size 7 = .ok (.ireturn, 1) := by decide +kernel
theorem s_PT_size_0 {E : mm_E} {Γ : mm_G} {lev kc ks ca sa : Nat} {w : mm_W} {f : mm_F} {Post : Option Value → mm_W → mm_F → Prop} (h : mm_ok E Γ b_PT_size 1 "PlannedTables" lev kc ks) (he : mm_end E Γ (some .int) kc ks Post y_PT_size.name) (hca : ca ≤ kc) (hsa : sa ≤ ks) (hw : mm_sh w)  (k0 : Post (some (.int (f 134 1))) w f) : mm_go E Γ 1 0 [(0, mm_rf E 1)] [] w f ca sa := by
  refine mm_aload_n h d_PT_size_0 0 rfl rfl ?_
  refine mm_getr h fl_PT_30 rfl (is_PT hw) (rf_PT_output hw) (is_OU hw).1 d_PT_size_1 ?_
  refine mm_geti h fl_PT_158 rfl (is_OU hw) d_PT_size_4 ?_
  exact mm_iret h he rfl d_PT_size_7 hca hsa k0
theorem d_PT_out_0 : decode b_PT_out 0 = .ok (.iload_n 1, 1) := by decide +kernel
theorem d_PT_out_1 : decode b_PT_out 1 = .ok (.ifCond .lt (26), 3) := by decide +kernel
theorem d_PT_out_4 : decode b_PT_out 4 = .ok (.iload_n 1, 1) := by decide +kernel
theorem d_PT_out_5 : decode b_PT_out 5 = .ok (.aload_n 0, 1) := by decide +kernel
theorem d_PT_out_6 : decode b_PT_out 6 = .ok (.getfield 30, 3) := by decide +kernel
theorem d_PT_out_9 : decode b_PT_out 9 = .ok (.getfield 158, 3) := by decide +kernel
theorem d_PT_out_12 : decode b_PT_out 12 = .ok (.if_icmp .ge (15), 3) := by decide +kernel
theorem d_PT_out_15 : decode b_PT_out 15 = .ok (.aload_n 0, 1) := by decide +kernel
theorem d_PT_out_16 : decode b_PT_out 16 = .ok (.getfield 30, 3) := by decide +kernel
theorem d_PT_out_19 : decode b_PT_out 19 = .ok (.getfield 161, 3) := by decide +kernel
theorem d_PT_out_22 : decode b_PT_out 22 = .ok (.iload_n 1, 1) := by decide +kernel
theorem d_PT_out_23 : decode b_PT_out 23 = .ok (.iaload, 1) := by decide +kernel
theorem d_PT_out_24 : decode b_PT_out 24 = .ok (.goto (4), 3) := by decide +kernel
theorem d_PT_out_27 : decode b_PT_out 27 = .ok (.iconst (0), 1) := by decide +kernel
theorem d_PT_out_28 : decode b_PT_out 28 = .ok (.ireturn, 1) := by decide +kernel
theorem s_PT_out_0 {E : mm_E} {Γ : mm_G} {lev kc ks ca sa : Nat} {w : mm_W} {f : mm_F} (h : mm_ok E Γ b_PT_out 2 "PlannedTables" lev kc ks) (hw : mm_sh w) {x1 : Int32} (k0 : x1 < 0 → mm_go E Γ 2 27 [(0, mm_rf E 1), (1, .int x1)] [] w f ca sa) (k1 : ¬ x1 < 0 → (f 134 1) ≤ x1 → mm_go E Γ 2 27 [(0, mm_rf E 1), (1, .int x1)] [] w f ca sa) (b2 : ¬ x1 < 0 → ¬ (f 134 1) ≤ x1 → vp_in x1 64) (k3 : ¬ x1 < 0 → ¬ (f 134 1) ≤ x1 → mm_go E Γ 2 28 [(0, mm_rf E 1), (1, .int x1)] [.int (f 135 (x1).toNatClampNeg)] w f ca sa) : mm_go E Γ 2 0 [(0, mm_rf E 1), (1, .int x1)] [] w f ca sa := by
  refine mm_iload_n h d_PT_out_0 1 rfl rfl ?_
  refine mm_if_lt h d_PT_out_1 (tgt := 27) (by decide) (fun c1 => ?_) (fun c1 => ?_)
  · skip
    exact (k0 c1)
  · skip
    refine mm_iload_n h d_PT_out_4 1 rfl rfl ?_
    refine mm_aload_n h d_PT_out_5 0 rfl rfl ?_
    refine mm_getr h fl_PT_30 rfl (is_PT hw) (rf_PT_output hw) (is_OU hw).1 d_PT_out_6 ?_
    refine mm_geti h fl_PT_158 rfl (is_OU hw) d_PT_out_9 ?_
    refine mm_icmp_ge h d_PT_out_12 (tgt := 27) (by decide) (fun c2 => ?_) (fun c2 => ?_)
    · skip
      exact (k1 c1 c2)
    · skip
      refine mm_aload_n h d_PT_out_15 0 rfl rfl ?_
      refine mm_getr h fl_PT_30 rfl (is_PT hw) (rf_PT_output hw) (is_OU hw).1 d_PT_out_16 ?_
      refine mm_getr h fl_PT_161 rfl (is_OU hw) (rf_OU_cells hw) (is_OC hw).1.1 d_PT_out_19 ?_
      refine mm_iload_n h d_PT_out_22 1 rfl rfl ?_
      refine mm_iald h (is_OC hw) (b2 c1 c2) d_PT_out_23 ?_
      refine mm_goto h d_PT_out_24 (tgt := 28) (by decide) ?_
      exact (k3 c1 c2)
theorem s_PT_out_27 {E : mm_E} {Γ : mm_G} {lev kc ks ca sa : Nat} {w : mm_W} {f : mm_F} (h : mm_ok E Γ b_PT_out 2 "PlannedTables" lev kc ks) (hw : mm_sh w) {x1 : Int32} (k0 : mm_go E Γ 2 28 [(0, mm_rf E 1), (1, .int x1)] [.int 0] w f ca sa) : mm_go E Γ 2 27 [(0, mm_rf E 1), (1, .int x1)] [] w f ca sa := by
  refine mm_iconst (v := 0) h d_PT_out_27 (by decide) ?_
  exact k0
theorem s_PT_out_28 {E : mm_E} {Γ : mm_G} {lev kc ks ca sa : Nat} {w : mm_W} {f : mm_F} {Post : Option Value → mm_W → mm_F → Prop} (h : mm_ok E Γ b_PT_out 2 "PlannedTables" lev kc ks) (he : mm_end E Γ (some .int) kc ks Post y_PT_out.name) (hca : ca ≤ kc) (hsa : sa ≤ ks) (hw : mm_sh w) {x1 : Int32} {xk0 : Int32} (k0 : Post (some (.int xk0)) w f) : mm_go E Γ 2 28 [(0, mm_rf E 1), (1, .int x1)] [.int xk0] w f ca sa := by
  exact mm_iret h he rfl d_PT_out_28 hca hsa k0
theorem d_PT_width_0 : decode b_PT_width 0 = .ok (.aload_n 0, 1) := by decide +kernel
theorem d_PT_width_1 : decode b_PT_width 1 = .ok (.getfield 23, 3) := by decide +kernel
theorem d_PT_width_4 : decode b_PT_width 4 = .ok (.aload_n 0, 1) := by decide +kernel
theorem d_PT_width_5 : decode b_PT_width 5 = .ok (.getfield 12, 3) := by decide +kernel
theorem d_PT_width_8 : decode b_PT_width 8 = .ok (.invokevirtual 127, 3) := by decide +kernel
theorem d_PT_width_11 : decode b_PT_width 11 = .ok (.aload_n 0, 1) := by decide +kernel
theorem d_PT_width_12 : decode b_PT_width 12 = .ok (.getfield 23, 3) := by decide +kernel
theorem d_PT_width_15 : decode b_PT_width 15 = .ok (.getfield 131, 3) := by decide +kernel
theorem d_PT_width_18 : decode b_PT_width 18 = .ok (.iconst (-1), 1) := by decide +kernel
theorem d_PT_width_19 : decode b_PT_width 19 = .ok (.if_icmp .ne (13), 3) := by decide +kernel
theorem d_PT_width_22 : decode b_PT_width 22 = .ok (.aload_n 0, 1) := by decide +kernel
theorem d_PT_width_23 : decode b_PT_width 23 = .ok (.getfield 23, 3) := by decide +kernel
theorem d_PT_width_26 : decode b_PT_width 26 = .ok (.getfield 163, 3) := by decide +kernel
theorem d_PT_width_29 : decode b_PT_width 29 = .ok (.goto (4), 3) := by decide +kernel
theorem d_PT_width_32 : decode b_PT_width 32 = .ok (.iconst (-1), 1) := by decide +kernel
theorem d_PT_width_33 : decode b_PT_width 33 = .ok (.ireturn, 1) := by decide +kernel
theorem s_PT_width_0 {E : mm_E} {Γ : mm_G} {lev kc ks ca sa : Nat} {w : mm_W} {f : mm_F} (h : mm_ok E Γ b_PT_width 1 "PlannedTables" lev kc ks) (hw : mm_sh w)  {vl0 vc0 vs0 : Nat} {P0 : Option Value → mm_W → mm_F → Prop} (hl0 : vl0 < lev) (hu0 : ca + vc0 ≤ kc) (hz0 : sa + vs0 ≤ ks) (m0 : mm_C E y_PN_lookThrough b_PN_lookThrough 3 none vl0 vc0 vs0 [mm_rf E 53, mm_rf E 2] w f P0) (k1 : ∀ (r : Option Value) (w1 : mm_W) (f1 : mm_F), P0 r w1 f1 → mm_go E Γ 1 11 [(0, mm_rf E 1)] (r.toList ++ []) w1 f1 (ca + vc0) (sa + vs0)) : mm_go E Γ 1 0 [(0, mm_rf E 1)] [] w f ca sa := by
  refine mm_aload_n h d_PT_width_0 0 rfl rfl ?_
  refine mm_getr h fl_PT_23 rfl (is_PT hw) (rf_PT_plan hw) (is_PL hw).1 d_PT_width_1 ?_
  refine mm_aload_n h d_PT_width_4 0 rfl rfl ?_
  refine mm_getr h fl_PT_12 rfl (is_PT hw) (rf_PT_tables hw) (is_TS hw).1 d_PT_width_5 ?_
  exact mm_callV (As := [mm_rf E 2]) (rest := []) h m0 cv_PT_127 cm_PN_lookThrough hl0 (q0 := _) rfl rfl (is_PL hw) hu0 hz0 rfl rfl (Nat.le_of_ble_eq_true rfl) d_PT_width_8 (fun r w1 f1 hp => k1 r w1 f1 hp)
theorem s_PT_width_11 {E : mm_E} {Γ : mm_G} {lev kc ks ca sa : Nat} {w : mm_W} {f : mm_F} (h : mm_ok E Γ b_PT_width 1 "PlannedTables" lev kc ks) (hw : mm_sh w)  (k0 : ¬ (f 53 2) = (-1) → mm_go E Γ 1 33 [(0, mm_rf E 1)] [.int (-1)] w f ca sa) (k1 : (f 53 2) = (-1) → mm_go E Γ 1 33 [(0, mm_rf E 1)] [.int (f 53 3)] w f ca sa) : mm_go E Γ 1 11 [(0, mm_rf E 1)] [] w f ca sa := by
  refine mm_aload_n h d_PT_width_11 0 rfl rfl ?_
  refine mm_getr h fl_PT_23 rfl (is_PT hw) (rf_PT_plan hw) (is_PL hw).1 d_PT_width_12 ?_
  refine mm_geti h fl_PT_131 rfl (is_PL hw) d_PT_width_15 ?_
  refine mm_iconst (v := (-1)) h d_PT_width_18 (by decide) ?_
  refine mm_icmp_ne h d_PT_width_19 (tgt := 32) (by decide) (fun c1 => ?_) (fun c1 => ?_)
  · skip
    refine mm_iconst (v := (-1)) h d_PT_width_32 (by decide) ?_
    exact (k0 c1)
  · skip
    refine mm_aload_n h d_PT_width_22 0 rfl rfl ?_
    refine mm_getr h fl_PT_23 rfl (is_PT hw) (rf_PT_plan hw) (is_PL hw).1 d_PT_width_23 ?_
    refine mm_geti h fl_PT_163 rfl (is_PL hw) d_PT_width_26 ?_
    refine mm_goto h d_PT_width_29 (tgt := 33) (by decide) ?_
    exact (k1 c1)
theorem s_PT_width_33 {E : mm_E} {Γ : mm_G} {lev kc ks ca sa : Nat} {w : mm_W} {f : mm_F} {Post : Option Value → mm_W → mm_F → Prop} (h : mm_ok E Γ b_PT_width 1 "PlannedTables" lev kc ks) (he : mm_end E Γ (some .int) kc ks Post y_PT_width.name) (hca : ca ≤ kc) (hsa : sa ≤ ks) (hw : mm_sh w) {xk0 : Int32} (k0 : Post (some (.int xk0)) w f) : mm_go E Γ 1 33 [(0, mm_rf E 1)] [.int xk0] w f ca sa := by
  exact mm_iret h he rfl d_PT_width_33 hca hsa k0
