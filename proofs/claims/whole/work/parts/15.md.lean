/-! Segments. -/
theorem d_MD_thrown_0 : decode b_MD_thrown 0 = .ok (.aload_n 0, 1) := by decide +kernel
theorem d_MD_thrown_1 : decode b_MD_thrown 1 = .ok (.getfield 56, 3) := by decide +kernel
theorem d_MD_thrown_4 : decode b_MD_thrown 4 = .ok (.ireturn, 1) := by decide +kernel
theorem s_MD_thrown_0 {E : mm_E} {Γ : mm_G} {lev kc ks ca sa : Nat} {w : mm_W} {f : mm_F} {Post : Option Value → mm_W → mm_F → Prop} (h : mm_ok E Γ b_MD_thrown 1 "PlannedTablesModel" lev kc ks) (he : mm_end E Γ (some .int) kc ks Post y_MD_thrown.name) (hca : ca ≤ kc) (hsa : sa ≤ ks) (hw : mm_sh w)  (k0 : Post (some (.int (f 136 0))) w f) : mm_go E Γ 1 0 [(0, mm_rf E 136)] [] w f ca sa := by
  refine mm_aload_n h d_MD_thrown_0 0 rfl rfl ?_
  refine mm_geti h fl_MD_56 rfl (is_MO hw) d_MD_thrown_1 ?_
  exact mm_iret h he rfl d_MD_thrown_4 hca hsa k0
theorem d_MD_isTable_0 : decode b_MD_isTable 0 = .ok (.iload_n 1, 1) := by decide +kernel
theorem d_MD_isTable_1 : decode b_MD_isTable 1 = .ok (.ifCond .lt (15), 3) := by decide +kernel
theorem d_MD_isTable_4 : decode b_MD_isTable 4 = .ok (.iload_n 1, 1) := by decide +kernel
theorem d_MD_isTable_5 : decode b_MD_isTable 5 = .ok (.aload_n 0, 1) := by decide +kernel
theorem d_MD_isTable_6 : decode b_MD_isTable 6 = .ok (.getfield 60, 3) := by decide +kernel
theorem d_MD_isTable_9 : decode b_MD_isTable 9 = .ok (.if_icmp .ge (7), 3) := by decide +kernel
theorem d_MD_isTable_12 : decode b_MD_isTable 12 = .ok (.iconst (1), 1) := by decide +kernel
theorem d_MD_isTable_13 : decode b_MD_isTable 13 = .ok (.goto (4), 3) := by decide +kernel
theorem d_MD_isTable_16 : decode b_MD_isTable 16 = .ok (.iconst (0), 1) := by decide +kernel
theorem d_MD_isTable_17 : decode b_MD_isTable 17 = .ok (.ireturn, 1) := by decide +kernel
theorem s_MD_isTable_0 {E : mm_E} {Γ : mm_G} {lev kc ks ca sa : Nat} {w : mm_W} {f : mm_F} (h : mm_ok E Γ b_MD_isTable 2 "PlannedTablesModel" lev kc ks) (hw : mm_sh w) {x1 : Int32} (k0 : x1 < 0 → mm_go E Γ 2 16 [(0, mm_rf E 136), (1, .int x1)] [] w f ca sa) (k1 : ¬ x1 < 0 → (f 136 1) ≤ x1 → mm_go E Γ 2 16 [(0, mm_rf E 136), (1, .int x1)] [] w f ca sa) (k2 : ¬ x1 < 0 → ¬ (f 136 1) ≤ x1 → mm_go E Γ 2 17 [(0, mm_rf E 136), (1, .int x1)] [.int 1] w f ca sa) : mm_go E Γ 2 0 [(0, mm_rf E 136), (1, .int x1)] [] w f ca sa := by
  refine mm_iload_n h d_MD_isTable_0 1 rfl rfl ?_
  refine mm_if_lt h d_MD_isTable_1 (tgt := 16) (by decide) (fun c1 => ?_) (fun c1 => ?_)
  · skip
    exact (k0 c1)
  · skip
    refine mm_iload_n h d_MD_isTable_4 1 rfl rfl ?_
    refine mm_aload_n h d_MD_isTable_5 0 rfl rfl ?_
    refine mm_geti h fl_MD_60 rfl (is_MO hw) d_MD_isTable_6 ?_
    refine mm_icmp_ge h d_MD_isTable_9 (tgt := 16) (by decide) (fun c2 => ?_) (fun c2 => ?_)
    · skip
      exact (k1 c1 c2)
    · skip
      refine mm_iconst (v := 1) h d_MD_isTable_12 (by decide) ?_
      refine mm_goto h d_MD_isTable_13 (tgt := 17) (by decide) ?_
      exact (k2 c1 c2)
theorem s_MD_isTable_16 {E : mm_E} {Γ : mm_G} {lev kc ks ca sa : Nat} {w : mm_W} {f : mm_F} (h : mm_ok E Γ b_MD_isTable 2 "PlannedTablesModel" lev kc ks) (hw : mm_sh w) {x1 : Int32} (k0 : mm_go E Γ 2 17 [(0, mm_rf E 136), (1, .int x1)] [.int 0] w f ca sa) : mm_go E Γ 2 16 [(0, mm_rf E 136), (1, .int x1)] [] w f ca sa := by
  refine mm_iconst (v := 0) h d_MD_isTable_16 (by decide) ?_
  exact k0
theorem s_MD_isTable_17 {E : mm_E} {Γ : mm_G} {lev kc ks ca sa : Nat} {w : mm_W} {f : mm_F} {Post : Option Value → mm_W → mm_F → Prop} (h : mm_ok E Γ b_MD_isTable 2 "PlannedTablesModel" lev kc ks) (he : mm_end E Γ (some .boolean) kc ks Post y_MD_isTable.name) (hca : ca ≤ kc) (hsa : sa ≤ ks) (hw : mm_sh w) {x1 : Int32} {xk0 : Int32} (k0 : Post (some (.int xk0)) w f) (n1 : narrow .boolean (.int xk0) = .int xk0) : mm_go E Γ 2 17 [(0, mm_rf E 136), (1, .int x1)] [.int xk0] w f ca sa := by
  exact mm_iret h he n1 d_MD_isTable_17 hca hsa k0
theorem d_MD_isColumn_0 : decode b_MD_isColumn 0 = .ok (.iload_n 2, 1) := by decide +kernel
theorem d_MD_isColumn_1 : decode b_MD_isColumn 1 = .ok (.ifCond .lt (17), 3) := by decide +kernel
theorem d_MD_isColumn_4 : decode b_MD_isColumn 4 = .ok (.iload_n 2, 1) := by decide +kernel
theorem d_MD_isColumn_5 : decode b_MD_isColumn 5 = .ok (.aload_n 0, 1) := by decide +kernel
theorem d_MD_isColumn_6 : decode b_MD_isColumn 6 = .ok (.getfield 7, 3) := by decide +kernel
theorem d_MD_isColumn_9 : decode b_MD_isColumn 9 = .ok (.iload_n 1, 1) := by decide +kernel
theorem d_MD_isColumn_10 : decode b_MD_isColumn 10 = .ok (.iaload, 1) := by decide +kernel
theorem d_MD_isColumn_11 : decode b_MD_isColumn 11 = .ok (.if_icmp .ge (7), 3) := by decide +kernel
theorem d_MD_isColumn_14 : decode b_MD_isColumn 14 = .ok (.iconst (1), 1) := by decide +kernel
theorem d_MD_isColumn_15 : decode b_MD_isColumn 15 = .ok (.goto (4), 3) := by decide +kernel
theorem d_MD_isColumn_18 : decode b_MD_isColumn 18 = .ok (.iconst (0), 1) := by decide +kernel
theorem d_MD_isColumn_19 : decode b_MD_isColumn 19 = .ok (.ireturn, 1) := by decide +kernel
theorem s_MD_isColumn_0 {E : mm_E} {Γ : mm_G} {lev kc ks ca sa : Nat} {w : mm_W} {f : mm_F} (h : mm_ok E Γ b_MD_isColumn 3 "PlannedTablesModel" lev kc ks) (hw : mm_sh w) {x1 : Int32} {x2 : Int32} (k0 : x2 < 0 → mm_go E Γ 3 18 [(0, mm_rf E 136), (1, .int x1), (2, .int x2)] [] w f ca sa) (b1 : ¬ x2 < 0 → vp_in x1 4) (k2 : ¬ x2 < 0 → (f 137 (x1).toNatClampNeg) ≤ x2 → mm_go E Γ 3 18 [(0, mm_rf E 136), (1, .int x1), (2, .int x2)] [] w f ca sa) (k3 : ¬ x2 < 0 → ¬ (f 137 (x1).toNatClampNeg) ≤ x2 → mm_go E Γ 3 19 [(0, mm_rf E 136), (1, .int x1), (2, .int x2)] [.int 1] w f ca sa) : mm_go E Γ 3 0 [(0, mm_rf E 136), (1, .int x1), (2, .int x2)] [] w f ca sa := by
  refine mm_iload_n h d_MD_isColumn_0 2 rfl rfl ?_
  refine mm_if_lt h d_MD_isColumn_1 (tgt := 18) (by decide) (fun c1 => ?_) (fun c1 => ?_)
  · skip
    exact (k0 c1)
  · skip
    refine mm_iload_n h d_MD_isColumn_4 2 rfl rfl ?_
    refine mm_aload_n h d_MD_isColumn_5 0 rfl rfl ?_
    refine mm_getr h fl_MD_7 rfl (is_MO hw) (rf_MO_columns hw) (is_Mcolumns hw).1.1 d_MD_isColumn_6 ?_
    refine mm_iload_n h d_MD_isColumn_9 1 rfl rfl ?_
    refine mm_iald h (is_Mcolumns hw) (b1 c1) d_MD_isColumn_10 ?_
    refine mm_icmp_ge h d_MD_isColumn_11 (tgt := 18) (by decide) (fun c2 => ?_) (fun c2 => ?_)
    · skip
      exact (k2 c1 c2)
    · skip
      refine mm_iconst (v := 1) h d_MD_isColumn_14 (by decide) ?_
      refine mm_goto h d_MD_isColumn_15 (tgt := 19) (by decide) ?_
      exact (k3 c1 c2)
theorem s_MD_isColumn_18 {E : mm_E} {Γ : mm_G} {lev kc ks ca sa : Nat} {w : mm_W} {f : mm_F} (h : mm_ok E Γ b_MD_isColumn 3 "PlannedTablesModel" lev kc ks) (hw : mm_sh w) {x1 : Int32} {x2 : Int32} (k0 : mm_go E Γ 3 19 [(0, mm_rf E 136), (1, .int x1), (2, .int x2)] [.int 0] w f ca sa) : mm_go E Γ 3 18 [(0, mm_rf E 136), (1, .int x1), (2, .int x2)] [] w f ca sa := by
  refine mm_iconst (v := 0) h d_MD_isColumn_18 (by decide) ?_
  exact k0
theorem s_MD_isColumn_19 {E : mm_E} {Γ : mm_G} {lev kc ks ca sa : Nat} {w : mm_W} {f : mm_F} {Post : Option Value → mm_W → mm_F → Prop} (h : mm_ok E Γ b_MD_isColumn 3 "PlannedTablesModel" lev kc ks) (he : mm_end E Γ (some .boolean) kc ks Post y_MD_isColumn.name) (hca : ca ≤ kc) (hsa : sa ≤ ks) (hw : mm_sh w) {x1 : Int32} {x2 : Int32} {xk0 : Int32} (k0 : Post (some (.int xk0)) w f) (n1 : narrow .boolean (.int xk0) = .int xk0) : mm_go E Γ 3 19 [(0, mm_rf E 136), (1, .int x1), (2, .int x2)] [.int xk0] w f ca sa := by
  exact mm_iret h he n1 d_MD_isColumn_19 hca hsa k0
theorem d_MD_table_0 : decode b_MD_table 0 = .ok (.aload_n 0, 1) := by decide +kernel
theorem d_MD_table_1 : decode b_MD_table 1 = .ok (.iload_n 1, 1) := by decide +kernel
theorem d_MD_table_2 : decode b_MD_table 2 = .ok (.iconst (1), 1) := by decide +kernel
theorem d_MD_table_3 : decode b_MD_table 3 = .ok (.if_icmp .lt (8), 3) := by decide +kernel
theorem d_MD_table_6 : decode b_MD_table 6 = .ok (.iload_n 1, 1) := by decide +kernel
theorem d_MD_table_7 : decode b_MD_table 7 = .ok (.iconst (4), 1) := by decide +kernel
theorem d_MD_table_8 : decode b_MD_table 8 = .ok (.if_icmp .le (7), 3) := by decide +kernel
theorem d_MD_table_11 : decode b_MD_table 11 = .ok (.iconst (1), 1) := by decide +kernel
theorem d_MD_table_12 : decode b_MD_table 12 = .ok (.goto (16), 3) := by decide +kernel
theorem d_MD_table_15 : decode b_MD_table 15 = .ok (.aload_n 0, 1) := by decide +kernel
theorem d_MD_table_16 : decode b_MD_table 16 = .ok (.getfield 60, 3) := by decide +kernel
theorem d_MD_table_19 : decode b_MD_table 19 = .ok (.iconst (4), 1) := by decide +kernel
theorem d_MD_table_20 : decode b_MD_table 20 = .ok (.if_icmp .ne (7), 3) := by decide +kernel
theorem d_MD_table_23 : decode b_MD_table 23 = .ok (.iconst (2), 1) := by decide +kernel
theorem d_MD_table_24 : decode b_MD_table 24 = .ok (.goto (4), 3) := by decide +kernel
theorem d_MD_table_27 : decode b_MD_table 27 = .ok (.iconst (0), 1) := by decide +kernel
theorem d_MD_table_28 : decode b_MD_table 28 = .ok (.putfield 56, 3) := by decide +kernel
theorem d_MD_table_31 : decode b_MD_table 31 = .ok (.aload_n 0, 1) := by decide +kernel
theorem d_MD_table_32 : decode b_MD_table 32 = .ok (.getfield 56, 3) := by decide +kernel
theorem d_MD_table_35 : decode b_MD_table 35 = .ok (.ifCond .le (5), 3) := by decide +kernel
theorem d_MD_table_38 : decode b_MD_table 38 = .ok (.iconst (0), 1) := by decide +kernel
theorem d_MD_table_39 : decode b_MD_table 39 = .ok (.ireturn, 1) := by decide +kernel
theorem d_MD_table_40 : decode b_MD_table 40 = .ok (.aload_n 0, 1) := by decide +kernel
theorem d_MD_table_41 : decode b_MD_table 41 = .ok (.getfield 7, 3) := by decide +kernel
theorem d_MD_table_44 : decode b_MD_table 44 = .ok (.aload_n 0, 1) := by decide +kernel
theorem d_MD_table_45 : decode b_MD_table 45 = .ok (.getfield 60, 3) := by decide +kernel
theorem d_MD_table_48 : decode b_MD_table 48 = .ok (.iload_n 1, 1) := by decide +kernel
theorem d_MD_table_49 : decode b_MD_table 49 = .ok (.iastore, 1) := by decide +kernel
theorem d_MD_table_50 : decode b_MD_table 50 = .ok (.aload_n 0, 1) := by decide +kernel
theorem d_MD_table_51 : decode b_MD_table 51 = .ok (.getfield 13, 3) := by decide +kernel
theorem d_MD_table_54 : decode b_MD_table 54 = .ok (.iconst (4), 1) := by decide +kernel
theorem d_MD_table_55 : decode b_MD_table 55 = .ok (.aload_n 0, 1) := by decide +kernel
theorem d_MD_table_56 : decode b_MD_table 56 = .ok (.getfield 60, 3) := by decide +kernel
theorem d_MD_table_59 : decode b_MD_table 59 = .ok (.imul, 1) := by decide +kernel
theorem d_MD_table_60 : decode b_MD_table 60 = .ok (.iconst (1), 1) := by decide +kernel
theorem d_MD_table_61 : decode b_MD_table 61 = .ok (.bastore, 1) := by decide +kernel
theorem d_MD_table_62 : decode b_MD_table 62 = .ok (.aload_n 0, 1) := by decide +kernel
theorem d_MD_table_63 : decode b_MD_table 63 = .ok (.aload_n 0, 1) := by decide +kernel
theorem d_MD_table_64 : decode b_MD_table 64 = .ok (.getfield 60, 3) := by decide +kernel
theorem d_MD_table_67 : decode b_MD_table 67 = .ok (.iconst (1), 1) := by decide +kernel
theorem d_MD_table_68 : decode b_MD_table 68 = .ok (.iadd, 1) := by decide +kernel
theorem d_MD_table_69 : decode b_MD_table 69 = .ok (.putfield 60, 3) := by decide +kernel
theorem d_MD_table_72 : decode b_MD_table 72 = .ok (.aload_n 0, 1) := by decide +kernel
theorem d_MD_table_73 : decode b_MD_table 73 = .ok (.getfield 60, 3) := by decide +kernel
theorem d_MD_table_76 : decode b_MD_table 76 = .ok (.iconst (1), 1) := by decide +kernel
theorem d_MD_table_77 : decode b_MD_table 77 = .ok (.isub, 1) := by decide +kernel
theorem d_MD_table_78 : decode b_MD_table 78 = .ok (.ireturn, 1) := by decide +kernel
theorem s_MD_table_0 {E : mm_E} {Γ : mm_G} {lev kc ks ca sa : Nat} {w : mm_W} {f : mm_F} (h : mm_ok E Γ b_MD_table 2 "PlannedTablesModel" lev kc ks) (hw : mm_sh w) {x1 : Int32} (k0 : x1 < 1 → mm_go E Γ 2 11 [(0, mm_rf E 136), (1, .int x1)] [mm_rf E 136] w f ca sa) (k1 : ¬ x1 < 1 → x1 ≤ 4 → ¬ (f 136 1) = 4 → mm_go E Γ 2 28 [(0, mm_rf E 136), (1, .int x1)] [.int 0, mm_rf E 136] w f ca sa) (k2 : ¬ x1 < 1 → x1 ≤ 4 → (f 136 1) = 4 → mm_go E Γ 2 28 [(0, mm_rf E 136), (1, .int x1)] [.int 2, mm_rf E 136] w f ca sa) (k3 : ¬ x1 < 1 → ¬ x1 ≤ 4 → mm_go E Γ 2 11 [(0, mm_rf E 136), (1, .int x1)] [mm_rf E 136] w f ca sa) : mm_go E Γ 2 0 [(0, mm_rf E 136), (1, .int x1)] [] w f ca sa := by
  refine mm_aload_n h d_MD_table_0 0 rfl rfl ?_
  refine mm_iload_n h d_MD_table_1 1 rfl rfl ?_
  refine mm_iconst (v := 1) h d_MD_table_2 (by decide) ?_
  refine mm_icmp_lt h d_MD_table_3 (tgt := 11) (by decide) (fun c1 => ?_) (fun c1 => ?_)
  · skip
    exact (k0 c1)
  · skip
    refine mm_iload_n h d_MD_table_6 1 rfl rfl ?_
    refine mm_iconst (v := 4) h d_MD_table_7 (by decide) ?_
    refine mm_icmp_le h d_MD_table_8 (tgt := 15) (by decide) (fun c2 => ?_) (fun c2 => ?_)
    · skip
      refine mm_aload_n h d_MD_table_15 0 rfl rfl ?_
      refine mm_geti h fl_MD_60 rfl (is_MO hw) d_MD_table_16 ?_
      refine mm_iconst (v := 4) h d_MD_table_19 (by decide) ?_
      refine mm_icmp_ne h d_MD_table_20 (tgt := 27) (by decide) (fun c3 => ?_) (fun c3 => ?_)
      · skip
        refine mm_iconst (v := 0) h d_MD_table_27 (by decide) ?_
        exact (k1 c1 c2 c3)
      · skip
        refine mm_iconst (v := 2) h d_MD_table_23 (by decide) ?_
        refine mm_goto h d_MD_table_24 (tgt := 28) (by decide) ?_
        exact (k2 c1 c2 c3)
    · skip
      exact (k3 c1 c2)
theorem s_MD_table_11 {E : mm_E} {Γ : mm_G} {lev kc ks ca sa : Nat} {w : mm_W} {f : mm_F} (h : mm_ok E Γ b_MD_table 2 "PlannedTablesModel" lev kc ks) (hw : mm_sh w) {x1 : Int32} (k0 : mm_go E Γ 2 28 [(0, mm_rf E 136), (1, .int x1)] [.int 1, mm_rf E 136] w f ca sa) : mm_go E Γ 2 11 [(0, mm_rf E 136), (1, .int x1)] [mm_rf E 136] w f ca sa := by
  refine mm_iconst (v := 1) h d_MD_table_11 (by decide) ?_
  refine mm_goto h d_MD_table_12 (tgt := 28) (by decide) ?_
  exact k0
theorem s_MD_table_28 {E : mm_E} {Γ : mm_G} {lev kc ks ca sa : Nat} {w : mm_W} {f : mm_F} {Post : Option Value → mm_W → mm_F → Prop} (h : mm_ok E Γ b_MD_table 2 "PlannedTablesModel" lev kc ks) (he : mm_end E Γ (some .int) kc ks Post y_MD_table.name) (hca : ca ≤ kc) (hsa : sa ≤ ks) (hw : mm_sh w) {x1 : Int32} {xk1 : Int32} (b0 : ((mm_up f 136 0 xk1) 136 0) ≤ 0 → vp_in ((mm_up f 136 0 xk1) 136 1) 4) (b1 : ((mm_up f 136 0 xk1) 136 0) ≤ 0 → vp_in (4 * ((mm_up (mm_up f 136 0 xk1) 137 (((mm_up f 136 0 xk1) 136 1)).toNatClampNeg x1) 136 1)) 16) (k2 : ((mm_up f 136 0 xk1) 136 0) ≤ 0 → Post (some (.int (((mm_up (mm_up (mm_up (mm_up f 136 0 xk1) 137 (((mm_up f 136 0 xk1) 136 1)).toNatClampNeg x1) 138 ((4 * ((mm_up (mm_up f 136 0 xk1) 137 (((mm_up f 136 0 xk1) 136 1)).toNatClampNeg x1) 136 1))).toNatClampNeg 1) 136 1 (((mm_up (mm_up (mm_up f 136 0 xk1) 137 (((mm_up f 136 0 xk1) 136 1)).toNatClampNeg x1) 138 ((4 * ((mm_up (mm_up f 136 0 xk1) 137 (((mm_up f 136 0 xk1) 136 1)).toNatClampNeg x1) 136 1))).toNatClampNeg 1) 136 1) + 1)) 136 1) - 1))) w (mm_up (mm_up (mm_up (mm_up f 136 0 xk1) 137 (((mm_up f 136 0 xk1) 136 1)).toNatClampNeg x1) 138 ((4 * ((mm_up (mm_up f 136 0 xk1) 137 (((mm_up f 136 0 xk1) 136 1)).toNatClampNeg x1) 136 1))).toNatClampNeg 1) 136 1 (((mm_up (mm_up (mm_up f 136 0 xk1) 137 (((mm_up f 136 0 xk1) 136 1)).toNatClampNeg x1) 138 ((4 * ((mm_up (mm_up f 136 0 xk1) 137 (((mm_up f 136 0 xk1) 136 1)).toNatClampNeg x1) 136 1))).toNatClampNeg 1) 136 1) + 1))) (k3 : ¬ ((mm_up f 136 0 xk1) 136 0) ≤ 0 → Post (some (.int 0)) w (mm_up f 136 0 xk1)) : mm_go E Γ 2 28 [(0, mm_rf E 136), (1, .int x1)] [.int xk1, mm_rf E 136] w f ca sa := by
  refine mm_puti h fl_MD_56 (Or.inl rfl) rfl rfl rfl (is_MO hw) d_MD_table_28 ?_
  refine mm_aload_n h d_MD_table_31 0 rfl rfl ?_
  refine mm_geti h fl_MD_56 rfl (is_MO hw) d_MD_table_32 ?_
  refine mm_if_le h d_MD_table_35 (tgt := 40) (by decide) (fun c1 => ?_) (fun c1 => ?_)
  · skip
    refine mm_aload_n h d_MD_table_40 0 rfl rfl ?_
    refine mm_getr h fl_MD_7 rfl (is_MO hw) (rf_MO_columns hw) (is_Mcolumns hw).1.1 d_MD_table_41 ?_
    refine mm_aload_n h d_MD_table_44 0 rfl rfl ?_
    refine mm_geti h fl_MD_60 rfl (is_MO hw) d_MD_table_45 ?_
    refine mm_iload_n h d_MD_table_48 1 rfl rfl ?_
    refine mm_iast h (is_Mcolumns hw) (b0 c1) d_MD_table_49 ?_
    refine mm_aload_n h d_MD_table_50 0 rfl rfl ?_
    refine mm_getr h fl_MD_13 rfl (is_MO hw) (rf_MO_indexed hw) (is_Mindexed hw).1.1 d_MD_table_51 ?_
    refine mm_iconst (v := 4) h d_MD_table_54 (by decide) ?_
    refine mm_aload_n h d_MD_table_55 0 rfl rfl ?_
    refine mm_geti h fl_MD_60 rfl (is_MO hw) d_MD_table_56 ?_
    refine mm_imul h d_MD_table_59 ?_
    refine mm_iconst (v := 1) h d_MD_table_60 (by decide) ?_
    refine mm_zast h rfl (is_Mindexed hw) (b1 c1) d_MD_table_61 ?_
    refine mm_aload_n h d_MD_table_62 0 rfl rfl ?_
    refine mm_aload_n h d_MD_table_63 0 rfl rfl ?_
    refine mm_geti h fl_MD_60 rfl (is_MO hw) d_MD_table_64 ?_
    refine mm_iconst (v := 1) h d_MD_table_67 (by decide) ?_
    refine mm_iadd h d_MD_table_68 ?_
    refine mm_puti h fl_MD_60 (Or.inl rfl) rfl rfl rfl (is_MO hw) d_MD_table_69 ?_
    refine mm_aload_n h d_MD_table_72 0 rfl rfl ?_
    refine mm_geti h fl_MD_60 rfl (is_MO hw) d_MD_table_73 ?_
    refine mm_iconst (v := 1) h d_MD_table_76 (by decide) ?_
    refine mm_isub h d_MD_table_77 ?_
    exact mm_iret h he rfl d_MD_table_78 hca hsa (k2 c1)
  · skip
    refine mm_iconst (v := 0) h d_MD_table_38 (by decide) ?_
    exact mm_iret h he rfl d_MD_table_39 hca hsa (k3 c1)
theorem d_MD_index_0 : decode b_MD_index 0 = .ok (.aload_n 0, 1) := by decide +kernel
theorem d_MD_index_1 : decode b_MD_index 1 = .ok (.aload_n 0, 1) := by decide +kernel
theorem d_MD_index_2 : decode b_MD_index 2 = .ok (.iload_n 1, 1) := by decide +kernel
theorem d_MD_index_3 : decode b_MD_index 3 = .ok (.invokevirtual 63, 3) := by decide +kernel
theorem d_MD_index_6 : decode b_MD_index 6 = .ok (.ifCond .eq (16), 3) := by decide +kernel
theorem d_MD_index_9 : decode b_MD_index 9 = .ok (.aload_n 0, 1) := by decide +kernel
theorem d_MD_index_10 : decode b_MD_index 10 = .ok (.iload_n 1, 1) := by decide +kernel
theorem d_MD_index_11 : decode b_MD_index 11 = .ok (.iload_n 2, 1) := by decide +kernel
theorem d_MD_index_12 : decode b_MD_index 12 = .ok (.invokevirtual 67, 3) := by decide +kernel
theorem d_MD_index_15 : decode b_MD_index 15 = .ok (.ifCond .eq (7), 3) := by decide +kernel
theorem d_MD_index_18 : decode b_MD_index 18 = .ok (.iconst (0), 1) := by decide +kernel
theorem d_MD_index_19 : decode b_MD_index 19 = .ok (.goto (4), 3) := by decide +kernel
theorem d_MD_index_22 : decode b_MD_index 22 = .ok (.iconst (1), 1) := by decide +kernel
theorem d_MD_index_23 : decode b_MD_index 23 = .ok (.putfield 56, 3) := by decide +kernel
theorem d_MD_index_26 : decode b_MD_index 26 = .ok (.aload_n 0, 1) := by decide +kernel
theorem d_MD_index_27 : decode b_MD_index 27 = .ok (.getfield 56, 3) := by decide +kernel
theorem d_MD_index_30 : decode b_MD_index 30 = .ok (.ifCond .gt (16), 3) := by decide +kernel
theorem d_MD_index_33 : decode b_MD_index 33 = .ok (.aload_n 0, 1) := by decide +kernel
theorem d_MD_index_34 : decode b_MD_index 34 = .ok (.getfield 13, 3) := by decide +kernel
theorem d_MD_index_37 : decode b_MD_index 37 = .ok (.iconst (4), 1) := by decide +kernel
theorem d_MD_index_38 : decode b_MD_index 38 = .ok (.iload_n 1, 1) := by decide +kernel
theorem d_MD_index_39 : decode b_MD_index 39 = .ok (.imul, 1) := by decide +kernel
theorem d_MD_index_40 : decode b_MD_index 40 = .ok (.iload_n 2, 1) := by decide +kernel
theorem d_MD_index_41 : decode b_MD_index 41 = .ok (.iadd, 1) := by decide +kernel
theorem d_MD_index_42 : decode b_MD_index 42 = .ok (.baload, 1) := by decide +kernel
theorem d_MD_index_43 : decode b_MD_index 43 = .ok (.ifCond .eq (5), 3) := by decide +kernel
theorem d_MD_index_46 : decode b_MD_index 46 = .ok (.iconst (0), 1) := by decide +kernel
theorem d_MD_index_47 : decode b_MD_index 47 = .ok (.ireturn, 1) := by decide +kernel
theorem d_MD_index_48 : decode b_MD_index 48 = .ok (.aload_n 0, 1) := by decide +kernel
theorem d_MD_index_49 : decode b_MD_index 49 = .ok (.getfield 13, 3) := by decide +kernel
theorem d_MD_index_52 : decode b_MD_index 52 = .ok (.iconst (4), 1) := by decide +kernel
theorem d_MD_index_53 : decode b_MD_index 53 = .ok (.iload_n 1, 1) := by decide +kernel
theorem d_MD_index_54 : decode b_MD_index 54 = .ok (.imul, 1) := by decide +kernel
theorem d_MD_index_55 : decode b_MD_index 55 = .ok (.iload_n 2, 1) := by decide +kernel
theorem d_MD_index_56 : decode b_MD_index 56 = .ok (.iadd, 1) := by decide +kernel
theorem d_MD_index_57 : decode b_MD_index 57 = .ok (.iconst (1), 1) := by decide +kernel
theorem d_MD_index_58 : decode b_MD_index 58 = .ok (.bastore, 1) := by decide +kernel
theorem d_MD_index_59 : decode b_MD_index 59 = .ok (.iconst (1), 1) := by decide +kernel
theorem d_MD_index_60 : decode b_MD_index 60 = .ok (.ireturn, 1) := by decide +kernel
theorem s_MD_index_0 {E : mm_E} {Γ : mm_G} {lev kc ks ca sa : Nat} {w : mm_W} {f : mm_F} (h : mm_ok E Γ b_MD_index 3 "PlannedTablesModel" lev kc ks) (hw : mm_sh w) {x1 : Int32} {x2 : Int32} {vl0 vc0 vs0 : Nat} {P0 : Option Value → mm_W → mm_F → Prop} (hl0 : vl0 < lev) (hu0 : ca + vc0 ≤ kc) (hz0 : sa + vs0 ≤ ks) (m0 : mm_C E y_MD_isTable b_MD_isTable 2 (some .boolean) vl0 vc0 vs0 [mm_rf E 136, .int x1] w f P0) (k1 : ∀ (r : Option Value) (w1 : mm_W) (f1 : mm_F), P0 r w1 f1 → mm_go E Γ 3 6 [(0, mm_rf E 136), (1, .int x1), (2, .int x2)] (r.toList ++ [mm_rf E 136]) w1 f1 (ca + vc0) (sa + vs0)) : mm_go E Γ 3 0 [(0, mm_rf E 136), (1, .int x1), (2, .int x2)] [] w f ca sa := by
  refine mm_aload_n h d_MD_index_0 0 rfl rfl ?_
  refine mm_aload_n h d_MD_index_1 0 rfl rfl ?_
  refine mm_iload_n h d_MD_index_2 1 rfl rfl ?_
  exact mm_callV (As := [.int x1]) (rest := [mm_rf E 136]) h m0 cv_MD_63 cm_MD_isTable hl0 (q0 := _) rfl rfl (is_MO hw) hu0 hz0 rfl rfl (Nat.le_of_ble_eq_true rfl) d_MD_index_3 (fun r w1 f1 hp => k1 r w1 f1 hp)
theorem s_MD_index_6 {E : mm_E} {Γ : mm_G} {lev kc ks ca sa : Nat} {w : mm_W} {f : mm_F} (h : mm_ok E Γ b_MD_index 3 "PlannedTablesModel" lev kc ks) (hw : mm_sh w) {x1 : Int32} {x2 : Int32} {xk1 : Int32} (k0 : xk1 = 0 → mm_go E Γ 3 22 [(0, mm_rf E 136), (1, .int x1), (2, .int x2)] [mm_rf E 136] w f ca sa) {vl0 vc0 vs0 : Nat} {P0 : Option Value → mm_W → mm_F → Prop} (hl0 : vl0 < lev) (hu0 : ca + vc0 ≤ kc) (hz0 : sa + vs0 ≤ ks) (m1 : ¬ xk1 = 0 → mm_C E y_MD_isColumn b_MD_isColumn 3 (some .boolean) vl0 vc0 vs0 [mm_rf E 136, .int x1, .int x2] w f P0) (k2 : ¬ xk1 = 0 → ∀ (r : Option Value) (w1 : mm_W) (f1 : mm_F), P0 r w1 f1 → mm_go E Γ 3 15 [(0, mm_rf E 136), (1, .int x1), (2, .int x2)] (r.toList ++ [mm_rf E 136]) w1 f1 (ca + vc0) (sa + vs0)) : mm_go E Γ 3 6 [(0, mm_rf E 136), (1, .int x1), (2, .int x2)] [.int xk1, mm_rf E 136] w f ca sa := by
  refine mm_if_eq h d_MD_index_6 (tgt := 22) (by decide) (fun c1 => ?_) (fun c1 => ?_)
  · skip
    exact (k0 c1)
  · skip
    refine mm_aload_n h d_MD_index_9 0 rfl rfl ?_
    refine mm_iload_n h d_MD_index_10 1 rfl rfl ?_
    refine mm_iload_n h d_MD_index_11 2 rfl rfl ?_
    exact mm_callV (As := [.int x1, .int x2]) (rest := [mm_rf E 136]) h (m1 c1) cv_MD_67 cm_MD_isColumn hl0 (q0 := _) rfl rfl (is_MO hw) hu0 hz0 rfl rfl (Nat.le_of_ble_eq_true rfl) d_MD_index_12 (fun r w1 f1 hp => (k2 c1) r w1 f1 hp)
theorem s_MD_index_15 {E : mm_E} {Γ : mm_G} {lev kc ks ca sa : Nat} {w : mm_W} {f : mm_F} (h : mm_ok E Γ b_MD_index 3 "PlannedTablesModel" lev kc ks) (hw : mm_sh w) {x1 : Int32} {x2 : Int32} {xk1 : Int32} (k0 : xk1 = 0 → mm_go E Γ 3 22 [(0, mm_rf E 136), (1, .int x1), (2, .int x2)] [mm_rf E 136] w f ca sa) (k1 : ¬ xk1 = 0 → mm_go E Γ 3 23 [(0, mm_rf E 136), (1, .int x1), (2, .int x2)] [.int 0, mm_rf E 136] w f ca sa) : mm_go E Γ 3 15 [(0, mm_rf E 136), (1, .int x1), (2, .int x2)] [.int xk1, mm_rf E 136] w f ca sa := by
  refine mm_if_eq h d_MD_index_15 (tgt := 22) (by decide) (fun c1 => ?_) (fun c1 => ?_)
  · skip
    exact (k0 c1)
  · skip
    refine mm_iconst (v := 0) h d_MD_index_18 (by decide) ?_
    refine mm_goto h d_MD_index_19 (tgt := 23) (by decide) ?_
    exact (k1 c1)
theorem s_MD_index_22 {E : mm_E} {Γ : mm_G} {lev kc ks ca sa : Nat} {w : mm_W} {f : mm_F} (h : mm_ok E Γ b_MD_index 3 "PlannedTablesModel" lev kc ks) (hw : mm_sh w) {x1 : Int32} {x2 : Int32} (k0 : mm_go E Γ 3 23 [(0, mm_rf E 136), (1, .int x1), (2, .int x2)] [.int 1, mm_rf E 136] w f ca sa) : mm_go E Γ 3 22 [(0, mm_rf E 136), (1, .int x1), (2, .int x2)] [mm_rf E 136] w f ca sa := by
  refine mm_iconst (v := 1) h d_MD_index_22 (by decide) ?_
  exact k0
theorem s_MD_index_23 {E : mm_E} {Γ : mm_G} {lev kc ks ca sa : Nat} {w : mm_W} {f : mm_F} {Post : Option Value → mm_W → mm_F → Prop} (h : mm_ok E Γ b_MD_index 3 "PlannedTablesModel" lev kc ks) (he : mm_end E Γ (some .boolean) kc ks Post y_MD_index.name) (hca : ca ≤ kc) (hsa : sa ≤ ks) (hw : mm_sh w) {x1 : Int32} {x2 : Int32} {xk1 : Int32} (k0 : 0 < ((mm_up f 136 0 xk1) 136 0) → mm_go E Γ 3 46 [(0, mm_rf E 136), (1, .int x1), (2, .int x2)] [] w (mm_up f 136 0 xk1) ca sa) (b1 : ¬ 0 < ((mm_up f 136 0 xk1) 136 0) → vp_in ((4 * x1) + x2) 16) (k2 : ¬ 0 < ((mm_up f 136 0 xk1) 136 0) → ((mm_up f 136 0 xk1) 138 (((4 * x1) + x2)).toNatClampNeg) = 0 → Post (some (.int 1)) w (mm_up (mm_up f 136 0 xk1) 138 (((4 * x1) + x2)).toNatClampNeg 1)) (k3 : ¬ 0 < ((mm_up f 136 0 xk1) 136 0) → ¬ ((mm_up f 136 0 xk1) 138 (((4 * x1) + x2)).toNatClampNeg) = 0 → mm_go E Γ 3 46 [(0, mm_rf E 136), (1, .int x1), (2, .int x2)] [] w (mm_up f 136 0 xk1) ca sa) : mm_go E Γ 3 23 [(0, mm_rf E 136), (1, .int x1), (2, .int x2)] [.int xk1, mm_rf E 136] w f ca sa := by
  refine mm_puti h fl_MD_56 (Or.inl rfl) rfl rfl rfl (is_MO hw) d_MD_index_23 ?_
  refine mm_aload_n h d_MD_index_26 0 rfl rfl ?_
  refine mm_geti h fl_MD_56 rfl (is_MO hw) d_MD_index_27 ?_
  refine mm_if_gt h d_MD_index_30 (tgt := 46) (by decide) (fun c1 => ?_) (fun c1 => ?_)
  · skip
    exact (k0 c1)
  · skip
    refine mm_aload_n h d_MD_index_33 0 rfl rfl ?_
    refine mm_getr h fl_MD_13 rfl (is_MO hw) (rf_MO_indexed hw) (is_Mindexed hw).1.1 d_MD_index_34 ?_
    refine mm_iconst (v := 4) h d_MD_index_37 (by decide) ?_
    refine mm_iload_n h d_MD_index_38 1 rfl rfl ?_
    refine mm_imul h d_MD_index_39 ?_
    refine mm_iload_n h d_MD_index_40 2 rfl rfl ?_
    refine mm_iadd h d_MD_index_41 ?_
    refine mm_zald h (is_Mindexed hw) (b1 c1) d_MD_index_42 ?_
    refine mm_if_eq h d_MD_index_43 (tgt := 48) (by decide) (fun c2 => ?_) (fun c2 => ?_)
    · skip
      refine mm_aload_n h d_MD_index_48 0 rfl rfl ?_
      refine mm_getr h fl_MD_13 rfl (is_MO hw) (rf_MO_indexed hw) (is_Mindexed hw).1.1 d_MD_index_49 ?_
      refine mm_iconst (v := 4) h d_MD_index_52 (by decide) ?_
      refine mm_iload_n h d_MD_index_53 1 rfl rfl ?_
      refine mm_imul h d_MD_index_54 ?_
      refine mm_iload_n h d_MD_index_55 2 rfl rfl ?_
      refine mm_iadd h d_MD_index_56 ?_
      refine mm_iconst (v := 1) h d_MD_index_57 (by decide) ?_
      refine mm_zast h rfl (is_Mindexed hw) (b1 c1) d_MD_index_58 ?_
      refine mm_iconst (v := 1) h d_MD_index_59 (by decide) ?_
      exact mm_iret h he rfl d_MD_index_60 hca hsa (k2 c1 c2)
    · skip
      exact (k3 c1 c2)
theorem s_MD_index_46 {E : mm_E} {Γ : mm_G} {lev kc ks ca sa : Nat} {w : mm_W} {f : mm_F} {Post : Option Value → mm_W → mm_F → Prop} (h : mm_ok E Γ b_MD_index 3 "PlannedTablesModel" lev kc ks) (he : mm_end E Γ (some .boolean) kc ks Post y_MD_index.name) (hca : ca ≤ kc) (hsa : sa ≤ ks) (hw : mm_sh w) {x1 : Int32} {x2 : Int32} (k0 : Post (some (.int 0)) w f) : mm_go E Γ 3 46 [(0, mm_rf E 136), (1, .int x1), (2, .int x2)] [] w f ca sa := by
  refine mm_iconst (v := 0) h d_MD_index_46 (by decide) ?_
  exact mm_iret h he rfl d_MD_index_47 hca hsa k0
theorem d_MD_stage_0 : decode b_MD_stage 0 = .ok (.aload_n 0, 1) := by decide +kernel
theorem d_MD_stage_1 : decode b_MD_stage 1 = .ok (.iconst (0), 1) := by decide +kernel
theorem d_MD_stage_2 : decode b_MD_stage 2 = .ok (.putfield 56, 3) := by decide +kernel
theorem d_MD_stage_5 : decode b_MD_stage 5 = .ok (.iload_n 1, 1) := by decide +kernel
theorem d_MD_stage_6 : decode b_MD_stage 6 = .ok (.ifCond .lt (8), 3) := by decide +kernel
theorem d_MD_stage_9 : decode b_MD_stage 9 = .ok (.iload_n 1, 1) := by decide +kernel
theorem d_MD_stage_10 : decode b_MD_stage 10 = .ok (.iconst (3), 1) := by decide +kernel
theorem d_MD_stage_11 : decode b_MD_stage 11 = .ok (.if_icmp .le (5), 3) := by decide +kernel
theorem d_MD_stage_14 : decode b_MD_stage 14 = .ok (.iconst (0), 1) := by decide +kernel
theorem d_MD_stage_15 : decode b_MD_stage 15 = .ok (.ireturn, 1) := by decide +kernel
theorem d_MD_stage_16 : decode b_MD_stage 16 = .ok (.aload_n 0, 1) := by decide +kernel
theorem d_MD_stage_17 : decode b_MD_stage 17 = .ok (.getfield 17, 3) := by decide +kernel
theorem d_MD_stage_20 : decode b_MD_stage 20 = .ok (.iload_n 1, 1) := by decide +kernel
theorem d_MD_stage_21 : decode b_MD_stage 21 = .ok (.iload_n 2, 1) := by decide +kernel
theorem d_MD_stage_22 : decode b_MD_stage 22 = .ok (.iastore, 1) := by decide +kernel
theorem d_MD_stage_23 : decode b_MD_stage 23 = .ok (.iconst (1), 1) := by decide +kernel
theorem d_MD_stage_24 : decode b_MD_stage 24 = .ok (.ireturn, 1) := by decide +kernel
theorem s_MD_stage_0 {E : mm_E} {Γ : mm_G} {lev kc ks ca sa : Nat} {w : mm_W} {f : mm_F} {Post : Option Value → mm_W → mm_F → Prop} (h : mm_ok E Γ b_MD_stage 3 "PlannedTablesModel" lev kc ks) (he : mm_end E Γ (some .boolean) kc ks Post y_MD_stage.name) (hca : ca ≤ kc) (hsa : sa ≤ ks) (hw : mm_sh w) {x1 : Int32} {x2 : Int32} (k0 : x1 < 0 → mm_go E Γ 3 14 [(0, mm_rf E 136), (1, .int x1), (2, .int x2)] [] w (mm_up f 136 0 0) ca sa) (b1 : ¬ x1 < 0 → x1 ≤ 3 → vp_in x1 4) (k2 : ¬ x1 < 0 → x1 ≤ 3 → Post (some (.int 1)) w (mm_up (mm_up f 136 0 0) 139 (x1).toNatClampNeg x2)) (k3 : ¬ x1 < 0 → ¬ x1 ≤ 3 → mm_go E Γ 3 14 [(0, mm_rf E 136), (1, .int x1), (2, .int x2)] [] w (mm_up f 136 0 0) ca sa) : mm_go E Γ 3 0 [(0, mm_rf E 136), (1, .int x1), (2, .int x2)] [] w f ca sa := by
  refine mm_aload_n h d_MD_stage_0 0 rfl rfl ?_
  refine mm_iconst (v := 0) h d_MD_stage_1 (by decide) ?_
  refine mm_puti h fl_MD_56 (Or.inl rfl) rfl rfl rfl (is_MO hw) d_MD_stage_2 ?_
  refine mm_iload_n h d_MD_stage_5 1 rfl rfl ?_
  refine mm_if_lt h d_MD_stage_6 (tgt := 14) (by decide) (fun c1 => ?_) (fun c1 => ?_)
  · skip
    exact (k0 c1)
  · skip
    refine mm_iload_n h d_MD_stage_9 1 rfl rfl ?_
    refine mm_iconst (v := 3) h d_MD_stage_10 (by decide) ?_
    refine mm_icmp_le h d_MD_stage_11 (tgt := 16) (by decide) (fun c2 => ?_) (fun c2 => ?_)
    · skip
      refine mm_aload_n h d_MD_stage_16 0 rfl rfl ?_
      refine mm_getr h fl_MD_17 rfl (is_MO hw) (rf_MO_staged hw) (is_Mstaged hw).1.1 d_MD_stage_17 ?_
      refine mm_iload_n h d_MD_stage_20 1 rfl rfl ?_
      refine mm_iload_n h d_MD_stage_21 2 rfl rfl ?_
      refine mm_iast h (is_Mstaged hw) (b1 c1 c2) d_MD_stage_22 ?_
      refine mm_iconst (v := 1) h d_MD_stage_23 (by decide) ?_
      exact mm_iret h he rfl d_MD_stage_24 hca hsa (k2 c1 c2)
    · skip
      exact (k3 c1 c2)
theorem s_MD_stage_14 {E : mm_E} {Γ : mm_G} {lev kc ks ca sa : Nat} {w : mm_W} {f : mm_F} {Post : Option Value → mm_W → mm_F → Prop} (h : mm_ok E Γ b_MD_stage 3 "PlannedTablesModel" lev kc ks) (he : mm_end E Γ (some .boolean) kc ks Post y_MD_stage.name) (hca : ca ≤ kc) (hsa : sa ≤ ks) (hw : mm_sh w) {x1 : Int32} {x2 : Int32} (k0 : Post (some (.int 0)) w f) : mm_go E Γ 3 14 [(0, mm_rf E 136), (1, .int x1), (2, .int x2)] [] w f ca sa := by
  refine mm_iconst (v := 0) h d_MD_stage_14 (by decide) ?_
  exact mm_iret h he rfl d_MD_stage_15 hca hsa k0
theorem d_MD_rowWith_0 : decode b_MD_rowWith 0 = .ok (.iconst (-1), 1) := by decide +kernel
theorem d_MD_rowWith_1 : decode b_MD_rowWith 1 = .ok (.istore_n 3, 1) := by decide +kernel
theorem d_MD_rowWith_2 : decode b_MD_rowWith 2 = .ok (.iconst (0), 1) := by decide +kernel
theorem d_MD_rowWith_3 : decode b_MD_rowWith 3 = .ok (.istore 4, 2) := by decide +kernel
theorem d_MD_rowWith_5 : decode b_MD_rowWith 5 = .ok (.iload 4, 2) := by decide +kernel
theorem d_MD_rowWith_7 : decode b_MD_rowWith 7 = .ok (.aload_n 0, 1) := by decide +kernel
theorem d_MD_rowWith_8 : decode b_MD_rowWith 8 = .ok (.getfield 71, 3) := by decide +kernel
theorem d_MD_rowWith_11 : decode b_MD_rowWith 11 = .ok (.if_icmp .ge (40), 3) := by decide +kernel
theorem d_MD_rowWith_14 : decode b_MD_rowWith 14 = .ok (.aload_n 0, 1) := by decide +kernel
theorem d_MD_rowWith_15 : decode b_MD_rowWith 15 = .ok (.getfield 20, 3) := by decide +kernel
theorem d_MD_rowWith_18 : decode b_MD_rowWith 18 = .ok (.iload 4, 2) := by decide +kernel
theorem d_MD_rowWith_20 : decode b_MD_rowWith 20 = .ok (.iaload, 1) := by decide +kernel
theorem d_MD_rowWith_21 : decode b_MD_rowWith 21 = .ok (.iload_n 1, 1) := by decide +kernel
theorem d_MD_rowWith_22 : decode b_MD_rowWith 22 = .ok (.if_icmp .ne (21), 3) := by decide +kernel
theorem d_MD_rowWith_25 : decode b_MD_rowWith 25 = .ok (.aload_n 0, 1) := by decide +kernel
theorem d_MD_rowWith_26 : decode b_MD_rowWith 26 = .ok (.getfield 23, 3) := by decide +kernel
theorem d_MD_rowWith_29 : decode b_MD_rowWith 29 = .ok (.iconst (4), 1) := by decide +kernel
theorem d_MD_rowWith_30 : decode b_MD_rowWith 30 = .ok (.iload 4, 2) := by decide +kernel
theorem d_MD_rowWith_32 : decode b_MD_rowWith 32 = .ok (.imul, 1) := by decide +kernel
theorem d_MD_rowWith_33 : decode b_MD_rowWith 33 = .ok (.iaload, 1) := by decide +kernel
theorem d_MD_rowWith_34 : decode b_MD_rowWith 34 = .ok (.iload_n 2, 1) := by decide +kernel
theorem d_MD_rowWith_35 : decode b_MD_rowWith 35 = .ok (.if_icmp .ne (8), 3) := by decide +kernel
theorem d_MD_rowWith_38 : decode b_MD_rowWith 38 = .ok (.iload 4, 2) := by decide +kernel
theorem d_MD_rowWith_40 : decode b_MD_rowWith 40 = .ok (.goto (4), 3) := by decide +kernel
theorem d_MD_rowWith_43 : decode b_MD_rowWith 43 = .ok (.iload_n 3, 1) := by decide +kernel
theorem d_MD_rowWith_44 : decode b_MD_rowWith 44 = .ok (.istore_n 3, 1) := by decide +kernel
theorem d_MD_rowWith_45 : decode b_MD_rowWith 45 = .ok (.iinc 4 (1), 3) := by decide +kernel
theorem d_MD_rowWith_48 : decode b_MD_rowWith 48 = .ok (.goto (-43), 3) := by decide +kernel
theorem d_MD_rowWith_51 : decode b_MD_rowWith 51 = .ok (.iload_n 3, 1) := by decide +kernel
theorem d_MD_rowWith_52 : decode b_MD_rowWith 52 = .ok (.ireturn, 1) := by decide +kernel
theorem s_MD_rowWith_0 {E : mm_E} {Γ : mm_G} {lev kc ks ca sa : Nat} {w : mm_W} {f : mm_F} (h : mm_ok E Γ b_MD_rowWith 5 "PlannedTablesModel" lev kc ks) (hw : mm_sh w) {x1 : Int32} {x2 : Int32} (k0 : mm_go E Γ 5 5 [(0, mm_rf E 136), (1, .int x1), (2, .int x2), (3, .int (-1)), (4, .int 0)] [] w f ca sa) : mm_go E Γ 5 0 [(0, mm_rf E 136), (1, .int x1), (2, .int x2)] [] w f ca sa := by
  refine mm_iconst (v := (-1)) h d_MD_rowWith_0 (by decide) ?_
  refine mm_istore_n (lv' := [(3, .int (-1)), (0, mm_rf E 136), (1, .int x1), (2, .int x2)]) h d_MD_rowWith_1 rfl (by decide) rfl ?_
  refine mm_iconst (v := 0) h d_MD_rowWith_2 (by decide) ?_
  refine mm_istore (lv' := [(4, .int 0), (3, .int (-1)), (0, mm_rf E 136), (1, .int x1), (2, .int x2)]) h d_MD_rowWith_3 (by decide) rfl ?_
  refine mm_sub [2, 3, 4, 1, 0] rfl ?_
  exact k0
theorem s_MD_rowWith_5 {E : mm_E} {Γ : mm_G} {lev kc ks ca sa : Nat} {w : mm_W} {f : mm_F} {Post : Option Value → mm_W → mm_F → Prop} (h : mm_ok E Γ b_MD_rowWith 5 "PlannedTablesModel" lev kc ks) (he : mm_end E Γ (some .int) kc ks Post y_MD_rowWith.name) (hca : ca ≤ kc) (hsa : sa ≤ ks) (hw : mm_sh w) {x1 : Int32} {x2 : Int32} {x3 : Int32} {x4 : Int32} (k0 : (f 136 5) ≤ x4 → Post (some (.int x3)) w f) (b1 : ¬ (f 136 5) ≤ x4 → vp_in x4 48) (k2 : ¬ (f 136 5) ≤ x4 → ¬ (f 140 (x4).toNatClampNeg) = x1 → mm_go E Γ 5 43 [(0, mm_rf E 136), (1, .int x1), (2, .int x2), (3, .int x3), (4, .int x4)] [] w f ca sa) (b3 : ¬ (f 136 5) ≤ x4 → (f 140 (x4).toNatClampNeg) = x1 → vp_in (4 * x4) 192) (k4 : ¬ (f 136 5) ≤ x4 → (f 140 (x4).toNatClampNeg) = x1 → ¬ (f 141 ((4 * x4)).toNatClampNeg) = x2 → mm_go E Γ 5 43 [(0, mm_rf E 136), (1, .int x1), (2, .int x2), (3, .int x3), (4, .int x4)] [] w f ca sa) (k5 : ¬ (f 136 5) ≤ x4 → (f 140 (x4).toNatClampNeg) = x1 → (f 141 ((4 * x4)).toNatClampNeg) = x2 → mm_go E Γ 5 44 [(0, mm_rf E 136), (1, .int x1), (2, .int x2), (3, .int x3), (4, .int x4)] [.int x4] w f ca sa) : mm_go E Γ 5 5 [(0, mm_rf E 136), (1, .int x1), (2, .int x2), (3, .int x3), (4, .int x4)] [] w f ca sa := by
  refine mm_iload h d_MD_rowWith_5 4 rfl ?_
  refine mm_aload_n h d_MD_rowWith_7 0 rfl rfl ?_
  refine mm_geti h fl_MD_71 rfl (is_MO hw) d_MD_rowWith_8 ?_
  refine mm_icmp_ge h d_MD_rowWith_11 (tgt := 51) (by decide) (fun c1 => ?_) (fun c1 => ?_)
  · skip
    refine mm_iload_n h d_MD_rowWith_51 3 rfl rfl ?_
    exact mm_iret h he rfl d_MD_rowWith_52 hca hsa (k0 c1)
  · skip
    refine mm_aload_n h d_MD_rowWith_14 0 rfl rfl ?_
    refine mm_getr h fl_MD_20 rfl (is_MO hw) (rf_MO_of hw) (is_Mof hw).1.1 d_MD_rowWith_15 ?_
    refine mm_iload h d_MD_rowWith_18 4 rfl ?_
    refine mm_iald h (is_Mof hw) (b1 c1) d_MD_rowWith_20 ?_
    refine mm_iload_n h d_MD_rowWith_21 1 rfl rfl ?_
    refine mm_icmp_ne h d_MD_rowWith_22 (tgt := 43) (by decide) (fun c2 => ?_) (fun c2 => ?_)
    · skip
      exact (k2 c1 c2)
    · skip
      refine mm_aload_n h d_MD_rowWith_25 0 rfl rfl ?_
      refine mm_getr h fl_MD_23 rfl (is_MO hw) (rf_MO_cells hw) (is_Mcells hw).1.1 d_MD_rowWith_26 ?_
      refine mm_iconst (v := 4) h d_MD_rowWith_29 (by decide) ?_
      refine mm_iload h d_MD_rowWith_30 4 rfl ?_
      refine mm_imul h d_MD_rowWith_32 ?_
      refine mm_iald h (is_Mcells hw) (b3 c1 c2) d_MD_rowWith_33 ?_
      refine mm_iload_n h d_MD_rowWith_34 2 rfl rfl ?_
      refine mm_icmp_ne h d_MD_rowWith_35 (tgt := 43) (by decide) (fun c3 => ?_) (fun c3 => ?_)
      · skip
        exact (k4 c1 c2 c3)
      · skip
        refine mm_iload h d_MD_rowWith_38 4 rfl ?_
        refine mm_goto h d_MD_rowWith_40 (tgt := 44) (by decide) ?_
        exact (k5 c1 c2 c3)
theorem s_MD_rowWith_43 {E : mm_E} {Γ : mm_G} {lev kc ks ca sa : Nat} {w : mm_W} {f : mm_F} (h : mm_ok E Γ b_MD_rowWith 5 "PlannedTablesModel" lev kc ks) (hw : mm_sh w) {x1 : Int32} {x2 : Int32} {x3 : Int32} {x4 : Int32} (k0 : mm_go E Γ 5 44 [(0, mm_rf E 136), (1, .int x1), (2, .int x2), (3, .int x3), (4, .int x4)] [.int x3] w f ca sa) : mm_go E Γ 5 43 [(0, mm_rf E 136), (1, .int x1), (2, .int x2), (3, .int x3), (4, .int x4)] [] w f ca sa := by
  refine mm_iload_n h d_MD_rowWith_43 3 rfl rfl ?_
  exact k0
theorem s_MD_rowWith_44 {E : mm_E} {Γ : mm_G} {lev kc ks ca sa : Nat} {w : mm_W} {f : mm_F} (h : mm_ok E Γ b_MD_rowWith 5 "PlannedTablesModel" lev kc ks) (hw : mm_sh w) {x1 : Int32} {x2 : Int32} {x3 : Int32} {x4 : Int32} {xk0 : Int32} (k0 : mm_go E Γ 5 5 [(0, mm_rf E 136), (1, .int x1), (2, .int x2), (3, .int xk0), (4, .int (x4 + 1))] [] w f ca sa) : mm_go E Γ 5 44 [(0, mm_rf E 136), (1, .int x1), (2, .int x2), (3, .int x3), (4, .int x4)] [.int xk0] w f ca sa := by
  refine mm_istore_n (lv' := [(3, .int xk0), (0, mm_rf E 136), (1, .int x1), (2, .int x2), (4, .int x4)]) h d_MD_rowWith_44 rfl (by decide) rfl ?_
  refine mm_iinc (lv' := [(4, .int (x4 + 1)), (3, .int xk0), (0, mm_rf E 136), (1, .int x1), (2, .int x2)]) h d_MD_rowWith_45 4 rfl (congrArg (fun z => x4 + z) lit1) (by decide) rfl ?_
  refine mm_goto h d_MD_rowWith_48 (tgt := 5) (by decide) ?_
  refine mm_sub [2, 3, 4, 1, 0] rfl ?_
  exact k0
theorem d_MD_rowsOf_0 : decode b_MD_rowsOf 0 = .ok (.iconst (0), 1) := by decide +kernel
theorem d_MD_rowsOf_1 : decode b_MD_rowsOf 1 = .ok (.istore_n 2, 1) := by decide +kernel
theorem d_MD_rowsOf_2 : decode b_MD_rowsOf 2 = .ok (.iconst (0), 1) := by decide +kernel
theorem d_MD_rowsOf_3 : decode b_MD_rowsOf 3 = .ok (.istore_n 3, 1) := by decide +kernel
theorem d_MD_rowsOf_4 : decode b_MD_rowsOf 4 = .ok (.iload_n 3, 1) := by decide +kernel
theorem d_MD_rowsOf_5 : decode b_MD_rowsOf 5 = .ok (.aload_n 0, 1) := by decide +kernel
theorem d_MD_rowsOf_6 : decode b_MD_rowsOf 6 = .ok (.getfield 71, 3) := by decide +kernel
theorem d_MD_rowsOf_9 : decode b_MD_rowsOf 9 = .ok (.if_icmp .ge (27), 3) := by decide +kernel
theorem d_MD_rowsOf_12 : decode b_MD_rowsOf 12 = .ok (.aload_n 0, 1) := by decide +kernel
theorem d_MD_rowsOf_13 : decode b_MD_rowsOf 13 = .ok (.getfield 20, 3) := by decide +kernel
theorem d_MD_rowsOf_16 : decode b_MD_rowsOf 16 = .ok (.iload_n 3, 1) := by decide +kernel
theorem d_MD_rowsOf_17 : decode b_MD_rowsOf 17 = .ok (.iaload, 1) := by decide +kernel
theorem d_MD_rowsOf_18 : decode b_MD_rowsOf 18 = .ok (.iload_n 1, 1) := by decide +kernel
theorem d_MD_rowsOf_19 : decode b_MD_rowsOf 19 = .ok (.if_icmp .ne (9), 3) := by decide +kernel
theorem d_MD_rowsOf_22 : decode b_MD_rowsOf 22 = .ok (.iload_n 2, 1) := by decide +kernel
theorem d_MD_rowsOf_23 : decode b_MD_rowsOf 23 = .ok (.iconst (1), 1) := by decide +kernel
theorem d_MD_rowsOf_24 : decode b_MD_rowsOf 24 = .ok (.iadd, 1) := by decide +kernel
theorem d_MD_rowsOf_25 : decode b_MD_rowsOf 25 = .ok (.goto (4), 3) := by decide +kernel
theorem d_MD_rowsOf_28 : decode b_MD_rowsOf 28 = .ok (.iload_n 2, 1) := by decide +kernel
theorem d_MD_rowsOf_29 : decode b_MD_rowsOf 29 = .ok (.istore_n 2, 1) := by decide +kernel
theorem d_MD_rowsOf_30 : decode b_MD_rowsOf 30 = .ok (.iinc 3 (1), 3) := by decide +kernel
theorem d_MD_rowsOf_33 : decode b_MD_rowsOf 33 = .ok (.goto (-29), 3) := by decide +kernel
theorem d_MD_rowsOf_36 : decode b_MD_rowsOf 36 = .ok (.iload_n 2, 1) := by decide +kernel
theorem d_MD_rowsOf_37 : decode b_MD_rowsOf 37 = .ok (.ireturn, 1) := by decide +kernel
theorem s_MD_rowsOf_0 {E : mm_E} {Γ : mm_G} {lev kc ks ca sa : Nat} {w : mm_W} {f : mm_F} (h : mm_ok E Γ b_MD_rowsOf 4 "PlannedTablesModel" lev kc ks) (hw : mm_sh w) {x1 : Int32} (k0 : mm_go E Γ 4 4 [(0, mm_rf E 136), (1, .int x1), (2, .int 0), (3, .int 0)] [] w f ca sa) : mm_go E Γ 4 0 [(0, mm_rf E 136), (1, .int x1)] [] w f ca sa := by
  refine mm_iconst (v := 0) h d_MD_rowsOf_0 (by decide) ?_
  refine mm_istore_n (lv' := [(2, .int 0), (0, mm_rf E 136), (1, .int x1)]) h d_MD_rowsOf_1 rfl (by decide) rfl ?_
  refine mm_iconst (v := 0) h d_MD_rowsOf_2 (by decide) ?_
  refine mm_istore_n (lv' := [(3, .int 0), (2, .int 0), (0, mm_rf E 136), (1, .int x1)]) h d_MD_rowsOf_3 rfl (by decide) rfl ?_
  refine mm_sub [2, 3, 1, 0] rfl ?_
  exact k0
theorem s_MD_rowsOf_4 {E : mm_E} {Γ : mm_G} {lev kc ks ca sa : Nat} {w : mm_W} {f : mm_F} {Post : Option Value → mm_W → mm_F → Prop} (h : mm_ok E Γ b_MD_rowsOf 4 "PlannedTablesModel" lev kc ks) (he : mm_end E Γ (some .int) kc ks Post y_MD_rowsOf.name) (hca : ca ≤ kc) (hsa : sa ≤ ks) (hw : mm_sh w) {x1 : Int32} {x2 : Int32} {x3 : Int32} (k0 : (f 136 5) ≤ x3 → Post (some (.int x2)) w f) (b1 : ¬ (f 136 5) ≤ x3 → vp_in x3 48) (k2 : ¬ (f 136 5) ≤ x3 → ¬ (f 140 (x3).toNatClampNeg) = x1 → mm_go E Γ 4 29 [(0, mm_rf E 136), (1, .int x1), (2, .int x2), (3, .int x3)] [.int x2] w f ca sa) (k3 : ¬ (f 136 5) ≤ x3 → (f 140 (x3).toNatClampNeg) = x1 → mm_go E Γ 4 29 [(0, mm_rf E 136), (1, .int x1), (2, .int x2), (3, .int x3)] [.int (x2 + 1)] w f ca sa) : mm_go E Γ 4 4 [(0, mm_rf E 136), (1, .int x1), (2, .int x2), (3, .int x3)] [] w f ca sa := by
  refine mm_iload_n h d_MD_rowsOf_4 3 rfl rfl ?_
  refine mm_aload_n h d_MD_rowsOf_5 0 rfl rfl ?_
  refine mm_geti h fl_MD_71 rfl (is_MO hw) d_MD_rowsOf_6 ?_
  refine mm_icmp_ge h d_MD_rowsOf_9 (tgt := 36) (by decide) (fun c1 => ?_) (fun c1 => ?_)
  · skip
    refine mm_iload_n h d_MD_rowsOf_36 2 rfl rfl ?_
    exact mm_iret h he rfl d_MD_rowsOf_37 hca hsa (k0 c1)
  · skip
    refine mm_aload_n h d_MD_rowsOf_12 0 rfl rfl ?_
    refine mm_getr h fl_MD_20 rfl (is_MO hw) (rf_MO_of hw) (is_Mof hw).1.1 d_MD_rowsOf_13 ?_
    refine mm_iload_n h d_MD_rowsOf_16 3 rfl rfl ?_
    refine mm_iald h (is_Mof hw) (b1 c1) d_MD_rowsOf_17 ?_
    refine mm_iload_n h d_MD_rowsOf_18 1 rfl rfl ?_
    refine mm_icmp_ne h d_MD_rowsOf_19 (tgt := 28) (by decide) (fun c2 => ?_) (fun c2 => ?_)
    · skip
      refine mm_iload_n h d_MD_rowsOf_28 2 rfl rfl ?_
      exact (k2 c1 c2)
    · skip
      refine mm_iload_n h d_MD_rowsOf_22 2 rfl rfl ?_
      refine mm_iconst (v := 1) h d_MD_rowsOf_23 (by decide) ?_
      refine mm_iadd h d_MD_rowsOf_24 ?_
      refine mm_goto h d_MD_rowsOf_25 (tgt := 29) (by decide) ?_
      exact (k3 c1 c2)
theorem s_MD_rowsOf_29 {E : mm_E} {Γ : mm_G} {lev kc ks ca sa : Nat} {w : mm_W} {f : mm_F} (h : mm_ok E Γ b_MD_rowsOf 4 "PlannedTablesModel" lev kc ks) (hw : mm_sh w) {x1 : Int32} {x2 : Int32} {x3 : Int32} {xk0 : Int32} (k0 : mm_go E Γ 4 4 [(0, mm_rf E 136), (1, .int x1), (2, .int xk0), (3, .int (x3 + 1))] [] w f ca sa) : mm_go E Γ 4 29 [(0, mm_rf E 136), (1, .int x1), (2, .int x2), (3, .int x3)] [.int xk0] w f ca sa := by
  refine mm_istore_n (lv' := [(2, .int xk0), (0, mm_rf E 136), (1, .int x1), (3, .int x3)]) h d_MD_rowsOf_29 rfl (by decide) rfl ?_
  refine mm_iinc (lv' := [(3, .int (x3 + 1)), (2, .int xk0), (0, mm_rf E 136), (1, .int x1)]) h d_MD_rowsOf_30 3 rfl (congrArg (fun z => x3 + z) lit1) (by decide) rfl ?_
  refine mm_goto h d_MD_rowsOf_33 (tgt := 4) (by decide) ?_
  refine mm_sub [2, 3, 1, 0] rfl ?_
  exact k0
theorem d_MD_insert_0 : decode b_MD_insert 0 = .ok (.aload_n 0, 1) := by decide +kernel
theorem d_MD_insert_1 : decode b_MD_insert 1 = .ok (.aload_n 0, 1) := by decide +kernel
theorem d_MD_insert_2 : decode b_MD_insert 2 = .ok (.iload_n 1, 1) := by decide +kernel
theorem d_MD_insert_3 : decode b_MD_insert 3 = .ok (.invokevirtual 63, 3) := by decide +kernel
theorem d_MD_insert_6 : decode b_MD_insert 6 = .ok (.ifCond .ne (7), 3) := by decide +kernel
theorem d_MD_insert_9 : decode b_MD_insert 9 = .ok (.iconst (1), 1) := by decide +kernel
theorem d_MD_insert_10 : decode b_MD_insert 10 = .ok (.goto (35), 3) := by decide +kernel
theorem d_MD_insert_13 : decode b_MD_insert 13 = .ok (.aload_n 0, 1) := by decide +kernel
theorem d_MD_insert_14 : decode b_MD_insert 14 = .ok (.iload_n 1, 1) := by decide +kernel
theorem d_MD_insert_15 : decode b_MD_insert 15 = .ok (.aload_n 0, 1) := by decide +kernel
theorem d_MD_insert_16 : decode b_MD_insert 16 = .ok (.getfield 17, 3) := by decide +kernel
theorem d_MD_insert_19 : decode b_MD_insert 19 = .ok (.iconst (0), 1) := by decide +kernel
theorem d_MD_insert_20 : decode b_MD_insert 20 = .ok (.iaload, 1) := by decide +kernel
theorem d_MD_insert_21 : decode b_MD_insert 21 = .ok (.invokevirtual 74, 3) := by decide +kernel
theorem d_MD_insert_24 : decode b_MD_insert 24 = .ok (.ifCond .lt (7), 3) := by decide +kernel
theorem d_MD_insert_27 : decode b_MD_insert 27 = .ok (.iconst (2), 1) := by decide +kernel
theorem d_MD_insert_28 : decode b_MD_insert 28 = .ok (.goto (17), 3) := by decide +kernel
theorem d_MD_insert_31 : decode b_MD_insert 31 = .ok (.aload_n 0, 1) := by decide +kernel
theorem d_MD_insert_32 : decode b_MD_insert 32 = .ok (.getfield 71, 3) := by decide +kernel
theorem d_MD_insert_35 : decode b_MD_insert 35 = .ok (.bipush (48), 2) := by decide +kernel
theorem d_MD_insert_37 : decode b_MD_insert 37 = .ok (.if_icmp .ne (7), 3) := by decide +kernel
theorem d_MD_insert_40 : decode b_MD_insert 40 = .ok (.iconst (3), 1) := by decide +kernel
theorem d_MD_insert_41 : decode b_MD_insert 41 = .ok (.goto (4), 3) := by decide +kernel
theorem d_MD_insert_44 : decode b_MD_insert 44 = .ok (.iconst (0), 1) := by decide +kernel
theorem d_MD_insert_45 : decode b_MD_insert 45 = .ok (.putfield 56, 3) := by decide +kernel
theorem d_MD_insert_48 : decode b_MD_insert 48 = .ok (.aload_n 0, 1) := by decide +kernel
theorem d_MD_insert_49 : decode b_MD_insert 49 = .ok (.getfield 56, 3) := by decide +kernel
theorem d_MD_insert_52 : decode b_MD_insert 52 = .ok (.ifCond .le (5), 3) := by decide +kernel
theorem d_MD_insert_55 : decode b_MD_insert 55 = .ok (.iconst (0), 1) := by decide +kernel
theorem d_MD_insert_56 : decode b_MD_insert 56 = .ok (.ireturn, 1) := by decide +kernel
theorem d_MD_insert_57 : decode b_MD_insert 57 = .ok (.aload_n 0, 1) := by decide +kernel
theorem d_MD_insert_58 : decode b_MD_insert 58 = .ok (.getfield 20, 3) := by decide +kernel
theorem d_MD_insert_61 : decode b_MD_insert 61 = .ok (.aload_n 0, 1) := by decide +kernel
theorem d_MD_insert_62 : decode b_MD_insert 62 = .ok (.getfield 71, 3) := by decide +kernel
theorem d_MD_insert_65 : decode b_MD_insert 65 = .ok (.iload_n 1, 1) := by decide +kernel
theorem d_MD_insert_66 : decode b_MD_insert 66 = .ok (.iastore, 1) := by decide +kernel
theorem d_MD_insert_67 : decode b_MD_insert 67 = .ok (.iconst (0), 1) := by decide +kernel
theorem d_MD_insert_68 : decode b_MD_insert 68 = .ok (.istore_n 2, 1) := by decide +kernel
theorem d_MD_insert_69 : decode b_MD_insert 69 = .ok (.iload_n 2, 1) := by decide +kernel
theorem d_MD_insert_70 : decode b_MD_insert 70 = .ok (.iconst (4), 1) := by decide +kernel
theorem d_MD_insert_71 : decode b_MD_insert 71 = .ok (.if_icmp .ge (28), 3) := by decide +kernel
theorem d_MD_insert_74 : decode b_MD_insert 74 = .ok (.aload_n 0, 1) := by decide +kernel
theorem d_MD_insert_75 : decode b_MD_insert 75 = .ok (.getfield 23, 3) := by decide +kernel
theorem d_MD_insert_78 : decode b_MD_insert 78 = .ok (.iconst (4), 1) := by decide +kernel
theorem d_MD_insert_79 : decode b_MD_insert 79 = .ok (.aload_n 0, 1) := by decide +kernel
theorem d_MD_insert_80 : decode b_MD_insert 80 = .ok (.getfield 71, 3) := by decide +kernel
theorem d_MD_insert_83 : decode b_MD_insert 83 = .ok (.imul, 1) := by decide +kernel
theorem d_MD_insert_84 : decode b_MD_insert 84 = .ok (.iload_n 2, 1) := by decide +kernel
theorem d_MD_insert_85 : decode b_MD_insert 85 = .ok (.iadd, 1) := by decide +kernel
theorem d_MD_insert_86 : decode b_MD_insert 86 = .ok (.aload_n 0, 1) := by decide +kernel
theorem d_MD_insert_87 : decode b_MD_insert 87 = .ok (.getfield 17, 3) := by decide +kernel
theorem d_MD_insert_90 : decode b_MD_insert 90 = .ok (.iload_n 2, 1) := by decide +kernel
theorem d_MD_insert_91 : decode b_MD_insert 91 = .ok (.iaload, 1) := by decide +kernel
theorem d_MD_insert_92 : decode b_MD_insert 92 = .ok (.iastore, 1) := by decide +kernel
theorem d_MD_insert_93 : decode b_MD_insert 93 = .ok (.iinc 2 (1), 3) := by decide +kernel
theorem d_MD_insert_96 : decode b_MD_insert 96 = .ok (.goto (-27), 3) := by decide +kernel
theorem d_MD_insert_99 : decode b_MD_insert 99 = .ok (.aload_n 0, 1) := by decide +kernel
theorem d_MD_insert_100 : decode b_MD_insert 100 = .ok (.aload_n 0, 1) := by decide +kernel
theorem d_MD_insert_101 : decode b_MD_insert 101 = .ok (.getfield 71, 3) := by decide +kernel
theorem d_MD_insert_104 : decode b_MD_insert 104 = .ok (.iconst (1), 1) := by decide +kernel
theorem d_MD_insert_105 : decode b_MD_insert 105 = .ok (.iadd, 1) := by decide +kernel
theorem d_MD_insert_106 : decode b_MD_insert 106 = .ok (.putfield 71, 3) := by decide +kernel
theorem d_MD_insert_109 : decode b_MD_insert 109 = .ok (.aload_n 0, 1) := by decide +kernel
theorem d_MD_insert_110 : decode b_MD_insert 110 = .ok (.iload_n 1, 1) := by decide +kernel
theorem d_MD_insert_111 : decode b_MD_insert 111 = .ok (.invokevirtual 78, 3) := by decide +kernel
theorem d_MD_insert_114 : decode b_MD_insert 114 = .ok (.ireturn, 1) := by decide +kernel
theorem s_MD_insert_0 {E : mm_E} {Γ : mm_G} {lev kc ks ca sa : Nat} {w : mm_W} {f : mm_F} (h : mm_ok E Γ b_MD_insert 3 "PlannedTablesModel" lev kc ks) (hw : mm_sh w) {x1 : Int32} {vl0 vc0 vs0 : Nat} {P0 : Option Value → mm_W → mm_F → Prop} (hl0 : vl0 < lev) (hu0 : ca + vc0 ≤ kc) (hz0 : sa + vs0 ≤ ks) (m0 : mm_C E y_MD_isTable b_MD_isTable 2 (some .boolean) vl0 vc0 vs0 [mm_rf E 136, .int x1] w f P0) (k1 : ∀ (r : Option Value) (w1 : mm_W) (f1 : mm_F), P0 r w1 f1 → mm_go E Γ 3 6 [(0, mm_rf E 136), (1, .int x1)] (r.toList ++ [mm_rf E 136]) w1 f1 (ca + vc0) (sa + vs0)) : mm_go E Γ 3 0 [(0, mm_rf E 136), (1, .int x1)] [] w f ca sa := by
  refine mm_aload_n h d_MD_insert_0 0 rfl rfl ?_
  refine mm_aload_n h d_MD_insert_1 0 rfl rfl ?_
  refine mm_iload_n h d_MD_insert_2 1 rfl rfl ?_
  exact mm_callV (As := [.int x1]) (rest := [mm_rf E 136]) h m0 cv_MD_63 cm_MD_isTable hl0 (q0 := _) rfl rfl (is_MO hw) hu0 hz0 rfl rfl (Nat.le_of_ble_eq_true rfl) d_MD_insert_3 (fun r w1 f1 hp => k1 r w1 f1 hp)
theorem s_MD_insert_6 {E : mm_E} {Γ : mm_G} {lev kc ks ca sa : Nat} {w : mm_W} {f : mm_F} (h : mm_ok E Γ b_MD_insert 3 "PlannedTablesModel" lev kc ks) (hw : mm_sh w) {x1 : Int32} {xk1 : Int32} {vl0 vc0 vs0 : Nat} {P0 : Option Value → mm_W → mm_F → Prop} (hl0 : vl0 < lev) (hu0 : ca + vc0 ≤ kc) (hz0 : sa + vs0 ≤ ks) (m0 : ¬ xk1 = 0 → mm_C E y_MD_rowWith b_MD_rowWith 5 (some .int) vl0 vc0 vs0 [mm_rf E 136, .int x1, .int (f 139 0)] w f P0) (k1 : ¬ xk1 = 0 → ∀ (r : Option Value) (w1 : mm_W) (f1 : mm_F), P0 r w1 f1 → mm_go E Γ 3 24 [(0, mm_rf E 136), (1, .int x1)] (r.toList ++ [mm_rf E 136]) w1 f1 (ca + vc0) (sa + vs0)) (k2 : xk1 = 0 → mm_go E Γ 3 45 [(0, mm_rf E 136), (1, .int x1)] [.int 1, mm_rf E 136] w f ca sa) : mm_go E Γ 3 6 [(0, mm_rf E 136), (1, .int x1)] [.int xk1, mm_rf E 136] w f ca sa := by
  refine mm_if_ne h d_MD_insert_6 (tgt := 13) (by decide) (fun c1 => ?_) (fun c1 => ?_)
  · skip
    refine mm_aload_n h d_MD_insert_13 0 rfl rfl ?_
    refine mm_iload_n h d_MD_insert_14 1 rfl rfl ?_
    refine mm_aload_n h d_MD_insert_15 0 rfl rfl ?_
    refine mm_getr h fl_MD_17 rfl (is_MO hw) (rf_MO_staged hw) (is_Mstaged hw).1.1 d_MD_insert_16 ?_
    refine mm_iconst (v := 0) h d_MD_insert_19 (by decide) ?_
    refine mm_iald h (is_Mstaged hw) (by unfold vp_in; decide) d_MD_insert_20 ?_
    exact mm_callV (As := [.int x1, .int (f 139 0)]) (rest := [mm_rf E 136]) h (m0 c1) cv_MD_74 cm_MD_rowWith hl0 (q0 := _) rfl rfl (is_MO hw) hu0 hz0 rfl rfl (Nat.le_of_ble_eq_true rfl) d_MD_insert_21 (fun r w1 f1 hp => (k1 c1) r w1 f1 hp)
  · skip
    refine mm_iconst (v := 1) h d_MD_insert_9 (by decide) ?_
    refine mm_goto h d_MD_insert_10 (tgt := 45) (by decide) ?_
    exact (k2 c1)
theorem s_MD_insert_24 {E : mm_E} {Γ : mm_G} {lev kc ks ca sa : Nat} {w : mm_W} {f : mm_F} (h : mm_ok E Γ b_MD_insert 3 "PlannedTablesModel" lev kc ks) (hw : mm_sh w) {x1 : Int32} {xk1 : Int32} (k0 : xk1 < 0 → ¬ (f 136 5) = 48 → mm_go E Γ 3 45 [(0, mm_rf E 136), (1, .int x1)] [.int 0, mm_rf E 136] w f ca sa) (k1 : xk1 < 0 → (f 136 5) = 48 → mm_go E Γ 3 45 [(0, mm_rf E 136), (1, .int x1)] [.int 3, mm_rf E 136] w f ca sa) (k2 : ¬ xk1 < 0 → mm_go E Γ 3 45 [(0, mm_rf E 136), (1, .int x1)] [.int 2, mm_rf E 136] w f ca sa) : mm_go E Γ 3 24 [(0, mm_rf E 136), (1, .int x1)] [.int xk1, mm_rf E 136] w f ca sa := by
  refine mm_if_lt h d_MD_insert_24 (tgt := 31) (by decide) (fun c1 => ?_) (fun c1 => ?_)
  · skip
    refine mm_aload_n h d_MD_insert_31 0 rfl rfl ?_
    refine mm_geti h fl_MD_71 rfl (is_MO hw) d_MD_insert_32 ?_
    refine mm_bipush (v := 48) h d_MD_insert_35 (by decide) ?_
    refine mm_icmp_ne h d_MD_insert_37 (tgt := 44) (by decide) (fun c2 => ?_) (fun c2 => ?_)
    · skip
      refine mm_iconst (v := 0) h d_MD_insert_44 (by decide) ?_
      exact (k0 c1 c2)
    · skip
      refine mm_iconst (v := 3) h d_MD_insert_40 (by decide) ?_
      refine mm_goto h d_MD_insert_41 (tgt := 45) (by decide) ?_
      exact (k1 c1 c2)
  · skip
    refine mm_iconst (v := 2) h d_MD_insert_27 (by decide) ?_
    refine mm_goto h d_MD_insert_28 (tgt := 45) (by decide) ?_
    exact (k2 c1)
theorem s_MD_insert_45 {E : mm_E} {Γ : mm_G} {lev kc ks ca sa : Nat} {w : mm_W} {f : mm_F} {Post : Option Value → mm_W → mm_F → Prop} (h : mm_ok E Γ b_MD_insert 3 "PlannedTablesModel" lev kc ks) (he : mm_end E Γ (some .int) kc ks Post y_MD_insert.name) (hca : ca ≤ kc) (hsa : sa ≤ ks) (hw : mm_sh w) {x1 : Int32} {xk1 : Int32} (b0 : ((mm_up f 136 0 xk1) 136 0) ≤ 0 → vp_in ((mm_up f 136 0 xk1) 136 5) 48) (k1 : ((mm_up f 136 0 xk1) 136 0) ≤ 0 → mm_go E Γ 3 69 [(0, mm_rf E 136), (1, .int x1), (2, .int 0)] [] w (mm_up (mm_up f 136 0 xk1) 140 (((mm_up f 136 0 xk1) 136 5)).toNatClampNeg x1) ca sa) (k2 : ¬ ((mm_up f 136 0 xk1) 136 0) ≤ 0 → Post (some (.int 0)) w (mm_up f 136 0 xk1)) : mm_go E Γ 3 45 [(0, mm_rf E 136), (1, .int x1)] [.int xk1, mm_rf E 136] w f ca sa := by
  refine mm_puti h fl_MD_56 (Or.inl rfl) rfl rfl rfl (is_MO hw) d_MD_insert_45 ?_
  refine mm_aload_n h d_MD_insert_48 0 rfl rfl ?_
  refine mm_geti h fl_MD_56 rfl (is_MO hw) d_MD_insert_49 ?_
  refine mm_if_le h d_MD_insert_52 (tgt := 57) (by decide) (fun c1 => ?_) (fun c1 => ?_)
  · skip
    refine mm_aload_n h d_MD_insert_57 0 rfl rfl ?_
    refine mm_getr h fl_MD_20 rfl (is_MO hw) (rf_MO_of hw) (is_Mof hw).1.1 d_MD_insert_58 ?_
    refine mm_aload_n h d_MD_insert_61 0 rfl rfl ?_
    refine mm_geti h fl_MD_71 rfl (is_MO hw) d_MD_insert_62 ?_
    refine mm_iload_n h d_MD_insert_65 1 rfl rfl ?_
    refine mm_iast h (is_Mof hw) (b0 c1) d_MD_insert_66 ?_
    refine mm_iconst (v := 0) h d_MD_insert_67 (by decide) ?_
    refine mm_istore_n (lv' := [(2, .int 0), (0, mm_rf E 136), (1, .int x1)]) h d_MD_insert_68 rfl (by decide) rfl ?_
    refine mm_sub [1, 2, 0] rfl ?_
    exact (k1 c1)
  · skip
    refine mm_iconst (v := 0) h d_MD_insert_55 (by decide) ?_
    exact mm_iret h he rfl d_MD_insert_56 hca hsa (k2 c1)
theorem s_MD_insert_69 {E : mm_E} {Γ : mm_G} {lev kc ks ca sa : Nat} {w : mm_W} {f : mm_F} (h : mm_ok E Γ b_MD_insert 3 "PlannedTablesModel" lev kc ks) (hw : mm_sh w) {x1 : Int32} {x2 : Int32} {vl0 vc0 vs0 : Nat} {P0 : Option Value → mm_W → mm_F → Prop} (hl0 : vl0 < lev) (hu0 : ca + vc0 ≤ kc) (hz0 : sa + vs0 ≤ ks) (m0 : 4 ≤ x2 → mm_C E y_MD_rowsOf b_MD_rowsOf 4 (some .int) vl0 vc0 vs0 [mm_rf E 136, .int x1] w (mm_up f 136 5 ((f 136 5) + 1)) P0) (k1 : 4 ≤ x2 → ∀ (r : Option Value) (w1 : mm_W) (f1 : mm_F), P0 r w1 f1 → mm_go E Γ 3 114 [(0, mm_rf E 136), (1, .int x1), (2, .int x2)] (r.toList ++ []) w1 f1 (ca + vc0) (sa + vs0)) (b2 : ¬ 4 ≤ x2 → vp_in x2 4) (b3 : ¬ 4 ≤ x2 → vp_in ((4 * (f 136 5)) + x2) 192) (k4 : ¬ 4 ≤ x2 → mm_go E Γ 3 69 [(0, mm_rf E 136), (1, .int x1), (2, .int (x2 + 1))] [] w (mm_up f 141 (((4 * (f 136 5)) + x2)).toNatClampNeg (f 139 (x2).toNatClampNeg)) ca sa) : mm_go E Γ 3 69 [(0, mm_rf E 136), (1, .int x1), (2, .int x2)] [] w f ca sa := by
  refine mm_iload_n h d_MD_insert_69 2 rfl rfl ?_
  refine mm_iconst (v := 4) h d_MD_insert_70 (by decide) ?_
  refine mm_icmp_ge h d_MD_insert_71 (tgt := 99) (by decide) (fun c1 => ?_) (fun c1 => ?_)
  · skip
    refine mm_aload_n h d_MD_insert_99 0 rfl rfl ?_
    refine mm_aload_n h d_MD_insert_100 0 rfl rfl ?_
    refine mm_geti h fl_MD_71 rfl (is_MO hw) d_MD_insert_101 ?_
    refine mm_iconst (v := 1) h d_MD_insert_104 (by decide) ?_
    refine mm_iadd h d_MD_insert_105 ?_
    refine mm_puti h fl_MD_71 (Or.inl rfl) rfl rfl rfl (is_MO hw) d_MD_insert_106 ?_
    refine mm_aload_n h d_MD_insert_109 0 rfl rfl ?_
    refine mm_iload_n h d_MD_insert_110 1 rfl rfl ?_
    exact mm_callV (As := [.int x1]) (rest := []) h (m0 c1) cv_MD_78 cm_MD_rowsOf hl0 (q0 := _) rfl rfl (is_MO hw) hu0 hz0 rfl rfl (Nat.le_of_ble_eq_true rfl) d_MD_insert_111 (fun r w1 f1 hp => (k1 c1) r w1 f1 hp)
  · skip
    refine mm_aload_n h d_MD_insert_74 0 rfl rfl ?_
    refine mm_getr h fl_MD_23 rfl (is_MO hw) (rf_MO_cells hw) (is_Mcells hw).1.1 d_MD_insert_75 ?_
    refine mm_iconst (v := 4) h d_MD_insert_78 (by decide) ?_
    refine mm_aload_n h d_MD_insert_79 0 rfl rfl ?_
    refine mm_geti h fl_MD_71 rfl (is_MO hw) d_MD_insert_80 ?_
    refine mm_imul h d_MD_insert_83 ?_
    refine mm_iload_n h d_MD_insert_84 2 rfl rfl ?_
    refine mm_iadd h d_MD_insert_85 ?_
    refine mm_aload_n h d_MD_insert_86 0 rfl rfl ?_
    refine mm_getr h fl_MD_17 rfl (is_MO hw) (rf_MO_staged hw) (is_Mstaged hw).1.1 d_MD_insert_87 ?_
    refine mm_iload_n h d_MD_insert_90 2 rfl rfl ?_
    refine mm_iald h (is_Mstaged hw) (b2 c1) d_MD_insert_91 ?_
    refine mm_iast h (is_Mcells hw) (b3 c1) d_MD_insert_92 ?_
    refine mm_iinc (lv' := [(2, .int (x2 + 1)), (0, mm_rf E 136), (1, .int x1)]) h d_MD_insert_93 2 rfl (congrArg (fun z => x2 + z) lit1) (by decide) rfl ?_
    refine mm_goto h d_MD_insert_96 (tgt := 69) (by decide) ?_
    refine mm_sub [1, 2, 0] rfl ?_
    exact (k4 c1)
theorem s_MD_insert_114 {E : mm_E} {Γ : mm_G} {lev kc ks ca sa : Nat} {w : mm_W} {f : mm_F} {Post : Option Value → mm_W → mm_F → Prop} (h : mm_ok E Γ b_MD_insert 3 "PlannedTablesModel" lev kc ks) (he : mm_end E Γ (some .int) kc ks Post y_MD_insert.name) (hca : ca ≤ kc) (hsa : sa ≤ ks) (hw : mm_sh w) {x1 : Int32} {x2 : Int32} {xk0 : Int32} (k0 : Post (some (.int xk0)) w f) : mm_go E Γ 3 114 [(0, mm_rf E 136), (1, .int x1), (2, .int x2)] [.int xk0] w f ca sa := by
  exact mm_iret h he rfl d_MD_insert_114 hca hsa k0
theorem d_MD_delete_0 : decode b_MD_delete 0 = .ok (.aload_n 0, 1) := by decide +kernel
theorem d_MD_delete_1 : decode b_MD_delete 1 = .ok (.aload_n 0, 1) := by decide +kernel
theorem d_MD_delete_2 : decode b_MD_delete 2 = .ok (.iload_n 1, 1) := by decide +kernel
theorem d_MD_delete_3 : decode b_MD_delete 3 = .ok (.invokevirtual 63, 3) := by decide +kernel
theorem d_MD_delete_6 : decode b_MD_delete 6 = .ok (.ifCond .ne (7), 3) := by decide +kernel
theorem d_MD_delete_9 : decode b_MD_delete 9 = .ok (.iconst (1), 1) := by decide +kernel
theorem d_MD_delete_10 : decode b_MD_delete 10 = .ok (.goto (17), 3) := by decide +kernel
theorem d_MD_delete_13 : decode b_MD_delete 13 = .ok (.aload_n 0, 1) := by decide +kernel
theorem d_MD_delete_14 : decode b_MD_delete 14 = .ok (.iload_n 1, 1) := by decide +kernel
theorem d_MD_delete_15 : decode b_MD_delete 15 = .ok (.iload_n 2, 1) := by decide +kernel
theorem d_MD_delete_16 : decode b_MD_delete 16 = .ok (.invokevirtual 74, 3) := by decide +kernel
theorem d_MD_delete_19 : decode b_MD_delete 19 = .ok (.ifCond .ge (7), 3) := by decide +kernel
theorem d_MD_delete_22 : decode b_MD_delete 22 = .ok (.iconst (2), 1) := by decide +kernel
theorem d_MD_delete_23 : decode b_MD_delete 23 = .ok (.goto (4), 3) := by decide +kernel
theorem d_MD_delete_26 : decode b_MD_delete 26 = .ok (.iconst (0), 1) := by decide +kernel
theorem d_MD_delete_27 : decode b_MD_delete 27 = .ok (.putfield 56, 3) := by decide +kernel
theorem d_MD_delete_30 : decode b_MD_delete 30 = .ok (.aload_n 0, 1) := by decide +kernel
theorem d_MD_delete_31 : decode b_MD_delete 31 = .ok (.getfield 56, 3) := by decide +kernel
theorem d_MD_delete_34 : decode b_MD_delete 34 = .ok (.ifCond .le (5), 3) := by decide +kernel
theorem d_MD_delete_37 : decode b_MD_delete 37 = .ok (.iconst (0), 1) := by decide +kernel
theorem d_MD_delete_38 : decode b_MD_delete 38 = .ok (.ireturn, 1) := by decide +kernel
theorem d_MD_delete_39 : decode b_MD_delete 39 = .ok (.aload_n 0, 1) := by decide +kernel
theorem d_MD_delete_40 : decode b_MD_delete 40 = .ok (.iload_n 1, 1) := by decide +kernel
theorem d_MD_delete_41 : decode b_MD_delete 41 = .ok (.iload_n 2, 1) := by decide +kernel
theorem d_MD_delete_42 : decode b_MD_delete 42 = .ok (.invokevirtual 74, 3) := by decide +kernel
theorem d_MD_delete_45 : decode b_MD_delete 45 = .ok (.istore_n 3, 1) := by decide +kernel
theorem d_MD_delete_46 : decode b_MD_delete 46 = .ok (.aload_n 0, 1) := by decide +kernel
theorem d_MD_delete_47 : decode b_MD_delete 47 = .ok (.aload_n 0, 1) := by decide +kernel
theorem d_MD_delete_48 : decode b_MD_delete 48 = .ok (.getfield 71, 3) := by decide +kernel
theorem d_MD_delete_51 : decode b_MD_delete 51 = .ok (.iconst (1), 1) := by decide +kernel
theorem d_MD_delete_52 : decode b_MD_delete 52 = .ok (.isub, 1) := by decide +kernel
theorem d_MD_delete_53 : decode b_MD_delete 53 = .ok (.putfield 71, 3) := by decide +kernel
theorem d_MD_delete_56 : decode b_MD_delete 56 = .ok (.aload_n 0, 1) := by decide +kernel
theorem d_MD_delete_57 : decode b_MD_delete 57 = .ok (.getfield 20, 3) := by decide +kernel
theorem d_MD_delete_60 : decode b_MD_delete 60 = .ok (.iload_n 3, 1) := by decide +kernel
theorem d_MD_delete_61 : decode b_MD_delete 61 = .ok (.aload_n 0, 1) := by decide +kernel
theorem d_MD_delete_62 : decode b_MD_delete 62 = .ok (.getfield 20, 3) := by decide +kernel
theorem d_MD_delete_65 : decode b_MD_delete 65 = .ok (.aload_n 0, 1) := by decide +kernel
theorem d_MD_delete_66 : decode b_MD_delete 66 = .ok (.getfield 71, 3) := by decide +kernel
theorem d_MD_delete_69 : decode b_MD_delete 69 = .ok (.iaload, 1) := by decide +kernel
theorem d_MD_delete_70 : decode b_MD_delete 70 = .ok (.iastore, 1) := by decide +kernel
theorem d_MD_delete_71 : decode b_MD_delete 71 = .ok (.iconst (0), 1) := by decide +kernel
theorem d_MD_delete_72 : decode b_MD_delete 72 = .ok (.istore 4, 2) := by decide +kernel
theorem d_MD_delete_74 : decode b_MD_delete 74 = .ok (.iload 4, 2) := by decide +kernel
theorem d_MD_delete_76 : decode b_MD_delete 76 = .ok (.iconst (4), 1) := by decide +kernel
theorem d_MD_delete_77 : decode b_MD_delete 77 = .ok (.if_icmp .ge (34), 3) := by decide +kernel
theorem d_MD_delete_80 : decode b_MD_delete 80 = .ok (.aload_n 0, 1) := by decide +kernel
theorem d_MD_delete_81 : decode b_MD_delete 81 = .ok (.getfield 23, 3) := by decide +kernel
theorem d_MD_delete_84 : decode b_MD_delete 84 = .ok (.iconst (4), 1) := by decide +kernel
theorem d_MD_delete_85 : decode b_MD_delete 85 = .ok (.iload_n 3, 1) := by decide +kernel
theorem d_MD_delete_86 : decode b_MD_delete 86 = .ok (.imul, 1) := by decide +kernel
theorem d_MD_delete_87 : decode b_MD_delete 87 = .ok (.iload 4, 2) := by decide +kernel
theorem d_MD_delete_89 : decode b_MD_delete 89 = .ok (.iadd, 1) := by decide +kernel
theorem d_MD_delete_90 : decode b_MD_delete 90 = .ok (.aload_n 0, 1) := by decide +kernel
theorem d_MD_delete_91 : decode b_MD_delete 91 = .ok (.getfield 23, 3) := by decide +kernel
theorem d_MD_delete_94 : decode b_MD_delete 94 = .ok (.iconst (4), 1) := by decide +kernel
theorem d_MD_delete_95 : decode b_MD_delete 95 = .ok (.aload_n 0, 1) := by decide +kernel
theorem d_MD_delete_96 : decode b_MD_delete 96 = .ok (.getfield 71, 3) := by decide +kernel
theorem d_MD_delete_99 : decode b_MD_delete 99 = .ok (.imul, 1) := by decide +kernel
theorem d_MD_delete_100 : decode b_MD_delete 100 = .ok (.iload 4, 2) := by decide +kernel
theorem d_MD_delete_102 : decode b_MD_delete 102 = .ok (.iadd, 1) := by decide +kernel
theorem d_MD_delete_103 : decode b_MD_delete 103 = .ok (.iaload, 1) := by decide +kernel
theorem d_MD_delete_104 : decode b_MD_delete 104 = .ok (.iastore, 1) := by decide +kernel
theorem d_MD_delete_105 : decode b_MD_delete 105 = .ok (.iinc 4 (1), 3) := by decide +kernel
theorem d_MD_delete_108 : decode b_MD_delete 108 = .ok (.goto (-34), 3) := by decide +kernel
theorem d_MD_delete_111 : decode b_MD_delete 111 = .ok (.aload_n 0, 1) := by decide +kernel
theorem d_MD_delete_112 : decode b_MD_delete 112 = .ok (.iload_n 1, 1) := by decide +kernel
theorem d_MD_delete_113 : decode b_MD_delete 113 = .ok (.invokevirtual 78, 3) := by decide +kernel
theorem d_MD_delete_116 : decode b_MD_delete 116 = .ok (.ireturn, 1) := by decide +kernel
theorem s_MD_delete_0 {E : mm_E} {Γ : mm_G} {lev kc ks ca sa : Nat} {w : mm_W} {f : mm_F} (h : mm_ok E Γ b_MD_delete 5 "PlannedTablesModel" lev kc ks) (hw : mm_sh w) {x1 : Int32} {x2 : Int32} {vl0 vc0 vs0 : Nat} {P0 : Option Value → mm_W → mm_F → Prop} (hl0 : vl0 < lev) (hu0 : ca + vc0 ≤ kc) (hz0 : sa + vs0 ≤ ks) (m0 : mm_C E y_MD_isTable b_MD_isTable 2 (some .boolean) vl0 vc0 vs0 [mm_rf E 136, .int x1] w f P0) (k1 : ∀ (r : Option Value) (w1 : mm_W) (f1 : mm_F), P0 r w1 f1 → mm_go E Γ 5 6 [(0, mm_rf E 136), (1, .int x1), (2, .int x2)] (r.toList ++ [mm_rf E 136]) w1 f1 (ca + vc0) (sa + vs0)) : mm_go E Γ 5 0 [(0, mm_rf E 136), (1, .int x1), (2, .int x2)] [] w f ca sa := by
  refine mm_aload_n h d_MD_delete_0 0 rfl rfl ?_
  refine mm_aload_n h d_MD_delete_1 0 rfl rfl ?_
  refine mm_iload_n h d_MD_delete_2 1 rfl rfl ?_
  exact mm_callV (As := [.int x1]) (rest := [mm_rf E 136]) h m0 cv_MD_63 cm_MD_isTable hl0 (q0 := _) rfl rfl (is_MO hw) hu0 hz0 rfl rfl (Nat.le_of_ble_eq_true rfl) d_MD_delete_3 (fun r w1 f1 hp => k1 r w1 f1 hp)
theorem s_MD_delete_6 {E : mm_E} {Γ : mm_G} {lev kc ks ca sa : Nat} {w : mm_W} {f : mm_F} (h : mm_ok E Γ b_MD_delete 5 "PlannedTablesModel" lev kc ks) (hw : mm_sh w) {x1 : Int32} {x2 : Int32} {xk1 : Int32} {vl0 vc0 vs0 : Nat} {P0 : Option Value → mm_W → mm_F → Prop} (hl0 : vl0 < lev) (hu0 : ca + vc0 ≤ kc) (hz0 : sa + vs0 ≤ ks) (m0 : ¬ xk1 = 0 → mm_C E y_MD_rowWith b_MD_rowWith 5 (some .int) vl0 vc0 vs0 [mm_rf E 136, .int x1, .int x2] w f P0) (k1 : ¬ xk1 = 0 → ∀ (r : Option Value) (w1 : mm_W) (f1 : mm_F), P0 r w1 f1 → mm_go E Γ 5 19 [(0, mm_rf E 136), (1, .int x1), (2, .int x2)] (r.toList ++ [mm_rf E 136]) w1 f1 (ca + vc0) (sa + vs0)) (k2 : xk1 = 0 → mm_go E Γ 5 27 [(0, mm_rf E 136), (1, .int x1), (2, .int x2)] [.int 1, mm_rf E 136] w f ca sa) : mm_go E Γ 5 6 [(0, mm_rf E 136), (1, .int x1), (2, .int x2)] [.int xk1, mm_rf E 136] w f ca sa := by
  refine mm_if_ne h d_MD_delete_6 (tgt := 13) (by decide) (fun c1 => ?_) (fun c1 => ?_)
  · skip
    refine mm_aload_n h d_MD_delete_13 0 rfl rfl ?_
    refine mm_iload_n h d_MD_delete_14 1 rfl rfl ?_
    refine mm_iload_n h d_MD_delete_15 2 rfl rfl ?_
    exact mm_callV (As := [.int x1, .int x2]) (rest := [mm_rf E 136]) h (m0 c1) cv_MD_74 cm_MD_rowWith hl0 (q0 := _) rfl rfl (is_MO hw) hu0 hz0 rfl rfl (Nat.le_of_ble_eq_true rfl) d_MD_delete_16 (fun r w1 f1 hp => (k1 c1) r w1 f1 hp)
  · skip
    refine mm_iconst (v := 1) h d_MD_delete_9 (by decide) ?_
    refine mm_goto h d_MD_delete_10 (tgt := 27) (by decide) ?_
    exact (k2 c1)
theorem s_MD_delete_19 {E : mm_E} {Γ : mm_G} {lev kc ks ca sa : Nat} {w : mm_W} {f : mm_F} (h : mm_ok E Γ b_MD_delete 5 "PlannedTablesModel" lev kc ks) (hw : mm_sh w) {x1 : Int32} {x2 : Int32} {xk1 : Int32} (k0 : 0 ≤ xk1 → mm_go E Γ 5 27 [(0, mm_rf E 136), (1, .int x1), (2, .int x2)] [.int 0, mm_rf E 136] w f ca sa) (k1 : ¬ 0 ≤ xk1 → mm_go E Γ 5 27 [(0, mm_rf E 136), (1, .int x1), (2, .int x2)] [.int 2, mm_rf E 136] w f ca sa) : mm_go E Γ 5 19 [(0, mm_rf E 136), (1, .int x1), (2, .int x2)] [.int xk1, mm_rf E 136] w f ca sa := by
  refine mm_if_ge h d_MD_delete_19 (tgt := 26) (by decide) (fun c1 => ?_) (fun c1 => ?_)
  · skip
    refine mm_iconst (v := 0) h d_MD_delete_26 (by decide) ?_
    exact (k0 c1)
  · skip
    refine mm_iconst (v := 2) h d_MD_delete_22 (by decide) ?_
    refine mm_goto h d_MD_delete_23 (tgt := 27) (by decide) ?_
    exact (k1 c1)
theorem s_MD_delete_27 {E : mm_E} {Γ : mm_G} {lev kc ks ca sa : Nat} {w : mm_W} {f : mm_F} {Post : Option Value → mm_W → mm_F → Prop} (h : mm_ok E Γ b_MD_delete 5 "PlannedTablesModel" lev kc ks) (he : mm_end E Γ (some .int) kc ks Post y_MD_delete.name) (hca : ca ≤ kc) (hsa : sa ≤ ks) (hw : mm_sh w) {x1 : Int32} {x2 : Int32} {xk1 : Int32} {vl0 vc0 vs0 : Nat} {P0 : Option Value → mm_W → mm_F → Prop} (hl0 : vl0 < lev) (hu0 : ca + vc0 ≤ kc) (hz0 : sa + vs0 ≤ ks) (m0 : ((mm_up f 136 0 xk1) 136 0) ≤ 0 → mm_C E y_MD_rowWith b_MD_rowWith 5 (some .int) vl0 vc0 vs0 [mm_rf E 136, .int x1, .int x2] w (mm_up f 136 0 xk1) P0) (k1 : ((mm_up f 136 0 xk1) 136 0) ≤ 0 → ∀ (r : Option Value) (w1 : mm_W) (f1 : mm_F), P0 r w1 f1 → mm_go E Γ 5 45 [(0, mm_rf E 136), (1, .int x1), (2, .int x2)] (r.toList ++ []) w1 f1 (ca + vc0) (sa + vs0)) (k2 : ¬ ((mm_up f 136 0 xk1) 136 0) ≤ 0 → Post (some (.int 0)) w (mm_up f 136 0 xk1)) : mm_go E Γ 5 27 [(0, mm_rf E 136), (1, .int x1), (2, .int x2)] [.int xk1, mm_rf E 136] w f ca sa := by
  refine mm_puti h fl_MD_56 (Or.inl rfl) rfl rfl rfl (is_MO hw) d_MD_delete_27 ?_
  refine mm_aload_n h d_MD_delete_30 0 rfl rfl ?_
  refine mm_geti h fl_MD_56 rfl (is_MO hw) d_MD_delete_31 ?_
  refine mm_if_le h d_MD_delete_34 (tgt := 39) (by decide) (fun c1 => ?_) (fun c1 => ?_)
  · skip
    refine mm_aload_n h d_MD_delete_39 0 rfl rfl ?_
    refine mm_iload_n h d_MD_delete_40 1 rfl rfl ?_
    refine mm_iload_n h d_MD_delete_41 2 rfl rfl ?_
    exact mm_callV (As := [.int x1, .int x2]) (rest := []) h (m0 c1) cv_MD_74 cm_MD_rowWith hl0 (q0 := _) rfl rfl (is_MO hw) hu0 hz0 rfl rfl (Nat.le_of_ble_eq_true rfl) d_MD_delete_42 (fun r w1 f1 hp => (k1 c1) r w1 f1 hp)
  · skip
    refine mm_iconst (v := 0) h d_MD_delete_37 (by decide) ?_
    exact mm_iret h he rfl d_MD_delete_38 hca hsa (k2 c1)
theorem s_MD_delete_45 {E : mm_E} {Γ : mm_G} {lev kc ks ca sa : Nat} {w : mm_W} {f : mm_F} (h : mm_ok E Γ b_MD_delete 5 "PlannedTablesModel" lev kc ks) (hw : mm_sh w) {x1 : Int32} {x2 : Int32} {xk0 : Int32} (b0 : vp_in ((mm_up f 136 5 ((f 136 5) - 1)) 136 5) 48) (b1 : vp_in xk0 48) (k2 : mm_go E Γ 5 74 [(0, mm_rf E 136), (1, .int x1), (2, .int x2), (3, .int xk0), (4, .int 0)] [] w (mm_up (mm_up f 136 5 ((f 136 5) - 1)) 140 (xk0).toNatClampNeg ((mm_up f 136 5 ((f 136 5) - 1)) 140 (((mm_up f 136 5 ((f 136 5) - 1)) 136 5)).toNatClampNeg)) ca sa) : mm_go E Γ 5 45 [(0, mm_rf E 136), (1, .int x1), (2, .int x2)] [.int xk0] w f ca sa := by
  refine mm_istore_n (lv' := [(3, .int xk0), (0, mm_rf E 136), (1, .int x1), (2, .int x2)]) h d_MD_delete_45 rfl (by decide) rfl ?_
  refine mm_aload_n h d_MD_delete_46 1 rfl rfl ?_
  refine mm_aload_n h d_MD_delete_47 1 rfl rfl ?_
  refine mm_geti h fl_MD_71 rfl (is_MO hw) d_MD_delete_48 ?_
  refine mm_iconst (v := 1) h d_MD_delete_51 (by decide) ?_
  refine mm_isub h d_MD_delete_52 ?_
  refine mm_puti h fl_MD_71 (Or.inl rfl) rfl rfl rfl (is_MO hw) d_MD_delete_53 ?_
  refine mm_aload_n h d_MD_delete_56 1 rfl rfl ?_
  refine mm_getr h fl_MD_20 rfl (is_MO hw) (rf_MO_of hw) (is_Mof hw).1.1 d_MD_delete_57 ?_
  refine mm_iload_n h d_MD_delete_60 0 rfl rfl ?_
  refine mm_aload_n h d_MD_delete_61 1 rfl rfl ?_
  refine mm_getr h fl_MD_20 rfl (is_MO hw) (rf_MO_of hw) (is_Mof hw).1.1 d_MD_delete_62 ?_
  refine mm_aload_n h d_MD_delete_65 1 rfl rfl ?_
  refine mm_geti h fl_MD_71 rfl (is_MO hw) d_MD_delete_66 ?_
  refine mm_iald h (is_Mof hw) b0 d_MD_delete_69 ?_
  refine mm_iast h (is_Mof hw) b1 d_MD_delete_70 ?_
  refine mm_iconst (v := 0) h d_MD_delete_71 (by decide) ?_
  refine mm_istore (lv' := [(4, .int 0), (3, .int xk0), (0, mm_rf E 136), (1, .int x1), (2, .int x2)]) h d_MD_delete_72 (by decide) rfl ?_
  refine mm_sub [2, 3, 4, 1, 0] rfl ?_
  exact k2
theorem s_MD_delete_74 {E : mm_E} {Γ : mm_G} {lev kc ks ca sa : Nat} {w : mm_W} {f : mm_F} (h : mm_ok E Γ b_MD_delete 5 "PlannedTablesModel" lev kc ks) (hw : mm_sh w) {x1 : Int32} {x2 : Int32} {x3 : Int32} {x4 : Int32} {vl0 vc0 vs0 : Nat} {P0 : Option Value → mm_W → mm_F → Prop} (hl0 : vl0 < lev) (hu0 : ca + vc0 ≤ kc) (hz0 : sa + vs0 ≤ ks) (m0 : 4 ≤ x4 → mm_C E y_MD_rowsOf b_MD_rowsOf 4 (some .int) vl0 vc0 vs0 [mm_rf E 136, .int x1] w f P0) (k1 : 4 ≤ x4 → ∀ (r : Option Value) (w1 : mm_W) (f1 : mm_F), P0 r w1 f1 → mm_go E Γ 5 116 [(0, mm_rf E 136), (1, .int x1), (2, .int x2), (3, .int x3), (4, .int x4)] (r.toList ++ []) w1 f1 (ca + vc0) (sa + vs0)) (b2 : ¬ 4 ≤ x4 → vp_in ((4 * (f 136 5)) + x4) 192) (b3 : ¬ 4 ≤ x4 → vp_in ((4 * x3) + x4) 192) (k4 : ¬ 4 ≤ x4 → mm_go E Γ 5 74 [(0, mm_rf E 136), (1, .int x1), (2, .int x2), (3, .int x3), (4, .int (x4 + 1))] [] w (mm_up f 141 (((4 * x3) + x4)).toNatClampNeg (f 141 (((4 * (f 136 5)) + x4)).toNatClampNeg)) ca sa) : mm_go E Γ 5 74 [(0, mm_rf E 136), (1, .int x1), (2, .int x2), (3, .int x3), (4, .int x4)] [] w f ca sa := by
  refine mm_iload h d_MD_delete_74 4 rfl ?_
  refine mm_iconst (v := 4) h d_MD_delete_76 (by decide) ?_
  refine mm_icmp_ge h d_MD_delete_77 (tgt := 111) (by decide) (fun c1 => ?_) (fun c1 => ?_)
  · skip
    refine mm_aload_n h d_MD_delete_111 0 rfl rfl ?_
    refine mm_iload_n h d_MD_delete_112 1 rfl rfl ?_
    exact mm_callV (As := [.int x1]) (rest := []) h (m0 c1) cv_MD_78 cm_MD_rowsOf hl0 (q0 := _) rfl rfl (is_MO hw) hu0 hz0 rfl rfl (Nat.le_of_ble_eq_true rfl) d_MD_delete_113 (fun r w1 f1 hp => (k1 c1) r w1 f1 hp)
  · skip
    refine mm_aload_n h d_MD_delete_80 0 rfl rfl ?_
    refine mm_getr h fl_MD_23 rfl (is_MO hw) (rf_MO_cells hw) (is_Mcells hw).1.1 d_MD_delete_81 ?_
    refine mm_iconst (v := 4) h d_MD_delete_84 (by decide) ?_
    refine mm_iload_n h d_MD_delete_85 3 rfl rfl ?_
    refine mm_imul h d_MD_delete_86 ?_
    refine mm_iload h d_MD_delete_87 4 rfl ?_
    refine mm_iadd h d_MD_delete_89 ?_
    refine mm_aload_n h d_MD_delete_90 0 rfl rfl ?_
    refine mm_getr h fl_MD_23 rfl (is_MO hw) (rf_MO_cells hw) (is_Mcells hw).1.1 d_MD_delete_91 ?_
    refine mm_iconst (v := 4) h d_MD_delete_94 (by decide) ?_
    refine mm_aload_n h d_MD_delete_95 0 rfl rfl ?_
    refine mm_geti h fl_MD_71 rfl (is_MO hw) d_MD_delete_96 ?_
    refine mm_imul h d_MD_delete_99 ?_
    refine mm_iload h d_MD_delete_100 4 rfl ?_
    refine mm_iadd h d_MD_delete_102 ?_
    refine mm_iald h (is_Mcells hw) (b2 c1) d_MD_delete_103 ?_
    refine mm_iast h (is_Mcells hw) (b3 c1) d_MD_delete_104 ?_
    refine mm_iinc (lv' := [(4, .int (x4 + 1)), (0, mm_rf E 136), (1, .int x1), (2, .int x2), (3, .int x3)]) h d_MD_delete_105 4 rfl (congrArg (fun z => x4 + z) lit1) (by decide) rfl ?_
    refine mm_goto h d_MD_delete_108 (tgt := 74) (by decide) ?_
    refine mm_sub [1, 2, 3, 4, 0] rfl ?_
    exact (k4 c1)
theorem s_MD_delete_116 {E : mm_E} {Γ : mm_G} {lev kc ks ca sa : Nat} {w : mm_W} {f : mm_F} {Post : Option Value → mm_W → mm_F → Prop} (h : mm_ok E Γ b_MD_delete 5 "PlannedTablesModel" lev kc ks) (he : mm_end E Γ (some .int) kc ks Post y_MD_delete.name) (hca : ca ≤ kc) (hsa : sa ≤ ks) (hw : mm_sh w) {x1 : Int32} {x2 : Int32} {x3 : Int32} {x4 : Int32} {xk0 : Int32} (k0 : Post (some (.int xk0)) w f) : mm_go E Γ 5 116 [(0, mm_rf E 136), (1, .int x1), (2, .int x2), (3, .int x3), (4, .int x4)] [.int xk0] w f ca sa := by
  exact mm_iret h he rfl d_MD_delete_116 hca hsa k0
theorem d_MD_cell_0 : decode b_MD_cell 0 = .ok (.aload_n 0, 1) := by decide +kernel
theorem d_MD_cell_1 : decode b_MD_cell 1 = .ok (.aload_n 0, 1) := by decide +kernel
theorem d_MD_cell_2 : decode b_MD_cell 2 = .ok (.iload_n 1, 1) := by decide +kernel
theorem d_MD_cell_3 : decode b_MD_cell 3 = .ok (.invokevirtual 63, 3) := by decide +kernel
theorem d_MD_cell_6 : decode b_MD_cell 6 = .ok (.ifCond .eq (12), 3) := by decide +kernel
theorem d_MD_cell_9 : decode b_MD_cell 9 = .ok (.aload_n 0, 1) := by decide +kernel
theorem d_MD_cell_10 : decode b_MD_cell 10 = .ok (.iload_n 1, 1) := by decide +kernel
theorem d_MD_cell_11 : decode b_MD_cell 11 = .ok (.iload_n 3, 1) := by decide +kernel
theorem d_MD_cell_12 : decode b_MD_cell 12 = .ok (.invokevirtual 67, 3) := by decide +kernel
theorem d_MD_cell_15 : decode b_MD_cell 15 = .ok (.ifCond .ne (7), 3) := by decide +kernel
theorem d_MD_cell_18 : decode b_MD_cell 18 = .ok (.iconst (1), 1) := by decide +kernel
theorem d_MD_cell_19 : decode b_MD_cell 19 = .ok (.goto (17), 3) := by decide +kernel
theorem d_MD_cell_22 : decode b_MD_cell 22 = .ok (.aload_n 0, 1) := by decide +kernel
theorem d_MD_cell_23 : decode b_MD_cell 23 = .ok (.iload_n 1, 1) := by decide +kernel
theorem d_MD_cell_24 : decode b_MD_cell 24 = .ok (.iload_n 2, 1) := by decide +kernel
theorem d_MD_cell_25 : decode b_MD_cell 25 = .ok (.invokevirtual 74, 3) := by decide +kernel
theorem d_MD_cell_28 : decode b_MD_cell 28 = .ok (.ifCond .ge (7), 3) := by decide +kernel
theorem d_MD_cell_31 : decode b_MD_cell 31 = .ok (.iconst (2), 1) := by decide +kernel
theorem d_MD_cell_32 : decode b_MD_cell 32 = .ok (.goto (4), 3) := by decide +kernel
theorem d_MD_cell_35 : decode b_MD_cell 35 = .ok (.iconst (0), 1) := by decide +kernel
theorem d_MD_cell_36 : decode b_MD_cell 36 = .ok (.putfield 56, 3) := by decide +kernel
theorem d_MD_cell_39 : decode b_MD_cell 39 = .ok (.aload_n 0, 1) := by decide +kernel
theorem d_MD_cell_40 : decode b_MD_cell 40 = .ok (.getfield 56, 3) := by decide +kernel
theorem d_MD_cell_43 : decode b_MD_cell 43 = .ok (.ifCond .le (7), 3) := by decide +kernel
theorem d_MD_cell_46 : decode b_MD_cell 46 = .ok (.iconst (0), 1) := by decide +kernel
theorem d_MD_cell_47 : decode b_MD_cell 47 = .ok (.goto (18), 3) := by decide +kernel
theorem d_MD_cell_50 : decode b_MD_cell 50 = .ok (.aload_n 0, 1) := by decide +kernel
theorem d_MD_cell_51 : decode b_MD_cell 51 = .ok (.getfield 23, 3) := by decide +kernel
theorem d_MD_cell_54 : decode b_MD_cell 54 = .ok (.iconst (4), 1) := by decide +kernel
theorem d_MD_cell_55 : decode b_MD_cell 55 = .ok (.aload_n 0, 1) := by decide +kernel
theorem d_MD_cell_56 : decode b_MD_cell 56 = .ok (.iload_n 1, 1) := by decide +kernel
theorem d_MD_cell_57 : decode b_MD_cell 57 = .ok (.iload_n 2, 1) := by decide +kernel
theorem d_MD_cell_58 : decode b_MD_cell 58 = .ok (.invokevirtual 74, 3) := by decide +kernel
theorem d_MD_cell_61 : decode b_MD_cell 61 = .ok (.imul, 1) := by decide +kernel
theorem d_MD_cell_62 : decode b_MD_cell 62 = .ok (.iload_n 3, 1) := by decide +kernel
theorem d_MD_cell_63 : decode b_MD_cell 63 = .ok (.iadd, 1) := by decide +kernel
theorem d_MD_cell_64 : decode b_MD_cell 64 = .ok (.iaload, 1) := by decide +kernel
theorem d_MD_cell_65 : decode b_MD_cell 65 = .ok (.ireturn, 1) := by decide +kernel
theorem s_MD_cell_0 {E : mm_E} {Γ : mm_G} {lev kc ks ca sa : Nat} {w : mm_W} {f : mm_F} (h : mm_ok E Γ b_MD_cell 4 "PlannedTablesModel" lev kc ks) (hw : mm_sh w) {x1 : Int32} {x2 : Int32} {x3 : Int32} {vl0 vc0 vs0 : Nat} {P0 : Option Value → mm_W → mm_F → Prop} (hl0 : vl0 < lev) (hu0 : ca + vc0 ≤ kc) (hz0 : sa + vs0 ≤ ks) (m0 : mm_C E y_MD_isTable b_MD_isTable 2 (some .boolean) vl0 vc0 vs0 [mm_rf E 136, .int x1] w f P0) (k1 : ∀ (r : Option Value) (w1 : mm_W) (f1 : mm_F), P0 r w1 f1 → mm_go E Γ 4 6 [(0, mm_rf E 136), (1, .int x1), (2, .int x2), (3, .int x3)] (r.toList ++ [mm_rf E 136]) w1 f1 (ca + vc0) (sa + vs0)) : mm_go E Γ 4 0 [(0, mm_rf E 136), (1, .int x1), (2, .int x2), (3, .int x3)] [] w f ca sa := by
  refine mm_aload_n h d_MD_cell_0 0 rfl rfl ?_
  refine mm_aload_n h d_MD_cell_1 0 rfl rfl ?_
  refine mm_iload_n h d_MD_cell_2 1 rfl rfl ?_
  exact mm_callV (As := [.int x1]) (rest := [mm_rf E 136]) h m0 cv_MD_63 cm_MD_isTable hl0 (q0 := _) rfl rfl (is_MO hw) hu0 hz0 rfl rfl (Nat.le_of_ble_eq_true rfl) d_MD_cell_3 (fun r w1 f1 hp => k1 r w1 f1 hp)
theorem s_MD_cell_6 {E : mm_E} {Γ : mm_G} {lev kc ks ca sa : Nat} {w : mm_W} {f : mm_F} (h : mm_ok E Γ b_MD_cell 4 "PlannedTablesModel" lev kc ks) (hw : mm_sh w) {x1 : Int32} {x2 : Int32} {x3 : Int32} {xk1 : Int32} (k0 : xk1 = 0 → mm_go E Γ 4 18 [(0, mm_rf E 136), (1, .int x1), (2, .int x2), (3, .int x3)] [mm_rf E 136] w f ca sa) {vl0 vc0 vs0 : Nat} {P0 : Option Value → mm_W → mm_F → Prop} (hl0 : vl0 < lev) (hu0 : ca + vc0 ≤ kc) (hz0 : sa + vs0 ≤ ks) (m1 : ¬ xk1 = 0 → mm_C E y_MD_isColumn b_MD_isColumn 3 (some .boolean) vl0 vc0 vs0 [mm_rf E 136, .int x1, .int x3] w f P0) (k2 : ¬ xk1 = 0 → ∀ (r : Option Value) (w1 : mm_W) (f1 : mm_F), P0 r w1 f1 → mm_go E Γ 4 15 [(0, mm_rf E 136), (1, .int x1), (2, .int x2), (3, .int x3)] (r.toList ++ [mm_rf E 136]) w1 f1 (ca + vc0) (sa + vs0)) : mm_go E Γ 4 6 [(0, mm_rf E 136), (1, .int x1), (2, .int x2), (3, .int x3)] [.int xk1, mm_rf E 136] w f ca sa := by
  refine mm_if_eq h d_MD_cell_6 (tgt := 18) (by decide) (fun c1 => ?_) (fun c1 => ?_)
  · skip
    exact (k0 c1)
  · skip
    refine mm_aload_n h d_MD_cell_9 0 rfl rfl ?_
    refine mm_iload_n h d_MD_cell_10 1 rfl rfl ?_
    refine mm_iload_n h d_MD_cell_11 3 rfl rfl ?_
    exact mm_callV (As := [.int x1, .int x3]) (rest := [mm_rf E 136]) h (m1 c1) cv_MD_67 cm_MD_isColumn hl0 (q0 := _) rfl rfl (is_MO hw) hu0 hz0 rfl rfl (Nat.le_of_ble_eq_true rfl) d_MD_cell_12 (fun r w1 f1 hp => (k2 c1) r w1 f1 hp)
theorem s_MD_cell_15 {E : mm_E} {Γ : mm_G} {lev kc ks ca sa : Nat} {w : mm_W} {f : mm_F} (h : mm_ok E Γ b_MD_cell 4 "PlannedTablesModel" lev kc ks) (hw : mm_sh w) {x1 : Int32} {x2 : Int32} {x3 : Int32} {xk1 : Int32} {vl0 vc0 vs0 : Nat} {P0 : Option Value → mm_W → mm_F → Prop} (hl0 : vl0 < lev) (hu0 : ca + vc0 ≤ kc) (hz0 : sa + vs0 ≤ ks) (m0 : ¬ xk1 = 0 → mm_C E y_MD_rowWith b_MD_rowWith 5 (some .int) vl0 vc0 vs0 [mm_rf E 136, .int x1, .int x2] w f P0) (k1 : ¬ xk1 = 0 → ∀ (r : Option Value) (w1 : mm_W) (f1 : mm_F), P0 r w1 f1 → mm_go E Γ 4 28 [(0, mm_rf E 136), (1, .int x1), (2, .int x2), (3, .int x3)] (r.toList ++ [mm_rf E 136]) w1 f1 (ca + vc0) (sa + vs0)) (k2 : xk1 = 0 → mm_go E Γ 4 18 [(0, mm_rf E 136), (1, .int x1), (2, .int x2), (3, .int x3)] [mm_rf E 136] w f ca sa) : mm_go E Γ 4 15 [(0, mm_rf E 136), (1, .int x1), (2, .int x2), (3, .int x3)] [.int xk1, mm_rf E 136] w f ca sa := by
  refine mm_if_ne h d_MD_cell_15 (tgt := 22) (by decide) (fun c1 => ?_) (fun c1 => ?_)
  · skip
    refine mm_aload_n h d_MD_cell_22 0 rfl rfl ?_
    refine mm_iload_n h d_MD_cell_23 1 rfl rfl ?_
    refine mm_iload_n h d_MD_cell_24 2 rfl rfl ?_
    exact mm_callV (As := [.int x1, .int x2]) (rest := [mm_rf E 136]) h (m0 c1) cv_MD_74 cm_MD_rowWith hl0 (q0 := _) rfl rfl (is_MO hw) hu0 hz0 rfl rfl (Nat.le_of_ble_eq_true rfl) d_MD_cell_25 (fun r w1 f1 hp => (k1 c1) r w1 f1 hp)
  · skip
    exact (k2 c1)
theorem s_MD_cell_18 {E : mm_E} {Γ : mm_G} {lev kc ks ca sa : Nat} {w : mm_W} {f : mm_F} (h : mm_ok E Γ b_MD_cell 4 "PlannedTablesModel" lev kc ks) (hw : mm_sh w) {x1 : Int32} {x2 : Int32} {x3 : Int32} (k0 : mm_go E Γ 4 36 [(0, mm_rf E 136), (1, .int x1), (2, .int x2), (3, .int x3)] [.int 1, mm_rf E 136] w f ca sa) : mm_go E Γ 4 18 [(0, mm_rf E 136), (1, .int x1), (2, .int x2), (3, .int x3)] [mm_rf E 136] w f ca sa := by
  refine mm_iconst (v := 1) h d_MD_cell_18 (by decide) ?_
  refine mm_goto h d_MD_cell_19 (tgt := 36) (by decide) ?_
  exact k0
theorem s_MD_cell_28 {E : mm_E} {Γ : mm_G} {lev kc ks ca sa : Nat} {w : mm_W} {f : mm_F} (h : mm_ok E Γ b_MD_cell 4 "PlannedTablesModel" lev kc ks) (hw : mm_sh w) {x1 : Int32} {x2 : Int32} {x3 : Int32} {xk1 : Int32} (k0 : 0 ≤ xk1 → mm_go E Γ 4 36 [(0, mm_rf E 136), (1, .int x1), (2, .int x2), (3, .int x3)] [.int 0, mm_rf E 136] w f ca sa) (k1 : ¬ 0 ≤ xk1 → mm_go E Γ 4 36 [(0, mm_rf E 136), (1, .int x1), (2, .int x2), (3, .int x3)] [.int 2, mm_rf E 136] w f ca sa) : mm_go E Γ 4 28 [(0, mm_rf E 136), (1, .int x1), (2, .int x2), (3, .int x3)] [.int xk1, mm_rf E 136] w f ca sa := by
  refine mm_if_ge h d_MD_cell_28 (tgt := 35) (by decide) (fun c1 => ?_) (fun c1 => ?_)
  · skip
    refine mm_iconst (v := 0) h d_MD_cell_35 (by decide) ?_
    exact (k0 c1)
  · skip
    refine mm_iconst (v := 2) h d_MD_cell_31 (by decide) ?_
    refine mm_goto h d_MD_cell_32 (tgt := 36) (by decide) ?_
    exact (k1 c1)
theorem s_MD_cell_36 {E : mm_E} {Γ : mm_G} {lev kc ks ca sa : Nat} {w : mm_W} {f : mm_F} (h : mm_ok E Γ b_MD_cell 4 "PlannedTablesModel" lev kc ks) (hw : mm_sh w) {x1 : Int32} {x2 : Int32} {x3 : Int32} {xk1 : Int32} {vl0 vc0 vs0 : Nat} {P0 : Option Value → mm_W → mm_F → Prop} (hl0 : vl0 < lev) (hu0 : ca + vc0 ≤ kc) (hz0 : sa + vs0 ≤ ks) (m0 : ((mm_up f 136 0 xk1) 136 0) ≤ 0 → mm_C E y_MD_rowWith b_MD_rowWith 5 (some .int) vl0 vc0 vs0 [mm_rf E 136, .int x1, .int x2] w (mm_up f 136 0 xk1) P0) (k1 : ((mm_up f 136 0 xk1) 136 0) ≤ 0 → ∀ (r : Option Value) (w1 : mm_W) (f1 : mm_F), P0 r w1 f1 → mm_go E Γ 4 61 [(0, mm_rf E 136), (1, .int x1), (2, .int x2), (3, .int x3)] (r.toList ++ [.int 4, mm_rf E 141]) w1 f1 (ca + vc0) (sa + vs0)) (k2 : ¬ ((mm_up f 136 0 xk1) 136 0) ≤ 0 → mm_go E Γ 4 65 [(0, mm_rf E 136), (1, .int x1), (2, .int x2), (3, .int x3)] [.int 0] w (mm_up f 136 0 xk1) ca sa) : mm_go E Γ 4 36 [(0, mm_rf E 136), (1, .int x1), (2, .int x2), (3, .int x3)] [.int xk1, mm_rf E 136] w f ca sa := by
  refine mm_puti h fl_MD_56 (Or.inl rfl) rfl rfl rfl (is_MO hw) d_MD_cell_36 ?_
  refine mm_aload_n h d_MD_cell_39 0 rfl rfl ?_
  refine mm_geti h fl_MD_56 rfl (is_MO hw) d_MD_cell_40 ?_
  refine mm_if_le h d_MD_cell_43 (tgt := 50) (by decide) (fun c1 => ?_) (fun c1 => ?_)
  · skip
    refine mm_aload_n h d_MD_cell_50 0 rfl rfl ?_
    refine mm_getr h fl_MD_23 rfl (is_MO hw) (rf_MO_cells hw) (is_Mcells hw).1.1 d_MD_cell_51 ?_
    refine mm_iconst (v := 4) h d_MD_cell_54 (by decide) ?_
    refine mm_aload_n h d_MD_cell_55 0 rfl rfl ?_
    refine mm_iload_n h d_MD_cell_56 1 rfl rfl ?_
    refine mm_iload_n h d_MD_cell_57 2 rfl rfl ?_
    exact mm_callV (As := [.int x1, .int x2]) (rest := [.int 4, mm_rf E 141]) h (m0 c1) cv_MD_74 cm_MD_rowWith hl0 (q0 := _) rfl rfl (is_MO hw) hu0 hz0 rfl rfl (Nat.le_of_ble_eq_true rfl) d_MD_cell_58 (fun r w1 f1 hp => (k1 c1) r w1 f1 hp)
  · skip
    refine mm_iconst (v := 0) h d_MD_cell_46 (by decide) ?_
    refine mm_goto h d_MD_cell_47 (tgt := 65) (by decide) ?_
    exact (k2 c1)
theorem s_MD_cell_61 {E : mm_E} {Γ : mm_G} {lev kc ks ca sa : Nat} {w : mm_W} {f : mm_F} (h : mm_ok E Γ b_MD_cell 4 "PlannedTablesModel" lev kc ks) (hw : mm_sh w) {x1 : Int32} {x2 : Int32} {x3 : Int32} {xk1 : Int32} {xk2 : Int32} (b0 : vp_in ((xk1 * xk2) + x3) 192) (k1 : mm_go E Γ 4 65 [(0, mm_rf E 136), (1, .int x1), (2, .int x2), (3, .int x3)] [.int (f 141 (((xk1 * xk2) + x3)).toNatClampNeg)] w f ca sa) : mm_go E Γ 4 61 [(0, mm_rf E 136), (1, .int x1), (2, .int x2), (3, .int x3)] [.int xk2, .int xk1, mm_rf E 141] w f ca sa := by
  refine mm_imul h d_MD_cell_61 ?_
  refine mm_iload_n h d_MD_cell_62 3 rfl rfl ?_
  refine mm_iadd h d_MD_cell_63 ?_
  refine mm_iald h (is_Mcells hw) b0 d_MD_cell_64 ?_
  exact k1
theorem s_MD_cell_65 {E : mm_E} {Γ : mm_G} {lev kc ks ca sa : Nat} {w : mm_W} {f : mm_F} {Post : Option Value → mm_W → mm_F → Prop} (h : mm_ok E Γ b_MD_cell 4 "PlannedTablesModel" lev kc ks) (he : mm_end E Γ (some .int) kc ks Post y_MD_cell.name) (hca : ca ≤ kc) (hsa : sa ≤ ks) (hw : mm_sh w) {x1 : Int32} {x2 : Int32} {x3 : Int32} {xk0 : Int32} (k0 : Post (some (.int xk0)) w f) : mm_go E Γ 4 65 [(0, mm_rf E 136), (1, .int x1), (2, .int x2), (3, .int x3)] [.int xk0] w f ca sa := by
  exact mm_iret h he rfl d_MD_cell_65 hca hsa k0
theorem d_MD_keyFrom_0 : decode b_MD_keyFrom 0 = .ok (.aload_n 0, 1) := by decide +kernel
theorem d_MD_keyFrom_1 : decode b_MD_keyFrom 1 = .ok (.aload_n 0, 1) := by decide +kernel
theorem d_MD_keyFrom_2 : decode b_MD_keyFrom 2 = .ok (.iload_n 1, 1) := by decide +kernel
theorem d_MD_keyFrom_3 : decode b_MD_keyFrom 3 = .ok (.invokevirtual 63, 3) := by decide +kernel
theorem d_MD_keyFrom_6 : decode b_MD_keyFrom 6 = .ok (.ifCond .eq (7), 3) := by decide +kernel
theorem d_MD_keyFrom_9 : decode b_MD_keyFrom 9 = .ok (.iconst (0), 1) := by decide +kernel
theorem d_MD_keyFrom_10 : decode b_MD_keyFrom 10 = .ok (.goto (4), 3) := by decide +kernel
theorem d_MD_keyFrom_13 : decode b_MD_keyFrom 13 = .ok (.iconst (1), 1) := by decide +kernel
theorem d_MD_keyFrom_14 : decode b_MD_keyFrom 14 = .ok (.putfield 56, 3) := by decide +kernel
theorem d_MD_keyFrom_17 : decode b_MD_keyFrom 17 = .ok (.aload_n 0, 1) := by decide +kernel
theorem d_MD_keyFrom_18 : decode b_MD_keyFrom 18 = .ok (.getfield 56, 3) := by decide +kernel
theorem d_MD_keyFrom_21 : decode b_MD_keyFrom 21 = .ok (.ifCond .le (5), 3) := by decide +kernel
theorem d_MD_keyFrom_24 : decode b_MD_keyFrom 24 = .ok (.iconst (0), 1) := by decide +kernel
theorem d_MD_keyFrom_25 : decode b_MD_keyFrom 25 = .ok (.ireturn, 1) := by decide +kernel
theorem d_MD_keyFrom_26 : decode b_MD_keyFrom 26 = .ok (.iconst (-1), 1) := by decide +kernel
theorem d_MD_keyFrom_27 : decode b_MD_keyFrom 27 = .ok (.istore_n 3, 1) := by decide +kernel
theorem d_MD_keyFrom_28 : decode b_MD_keyFrom 28 = .ok (.iconst (0), 1) := by decide +kernel
theorem d_MD_keyFrom_29 : decode b_MD_keyFrom 29 = .ok (.istore 4, 2) := by decide +kernel
theorem d_MD_keyFrom_31 : decode b_MD_keyFrom 31 = .ok (.iload 4, 2) := by decide +kernel
theorem d_MD_keyFrom_33 : decode b_MD_keyFrom 33 = .ok (.aload_n 0, 1) := by decide +kernel
theorem d_MD_keyFrom_34 : decode b_MD_keyFrom 34 = .ok (.getfield 71, 3) := by decide +kernel
theorem d_MD_keyFrom_37 : decode b_MD_keyFrom 37 = .ok (.if_icmp .ge (76), 3) := by decide +kernel
theorem d_MD_keyFrom_40 : decode b_MD_keyFrom 40 = .ok (.aload_n 0, 1) := by decide +kernel
theorem d_MD_keyFrom_41 : decode b_MD_keyFrom 41 = .ok (.getfield 20, 3) := by decide +kernel
theorem d_MD_keyFrom_44 : decode b_MD_keyFrom 44 = .ok (.iload 4, 2) := by decide +kernel
theorem d_MD_keyFrom_46 : decode b_MD_keyFrom 46 = .ok (.iaload, 1) := by decide +kernel
theorem d_MD_keyFrom_47 : decode b_MD_keyFrom 47 = .ok (.iload_n 1, 1) := by decide +kernel
theorem d_MD_keyFrom_48 : decode b_MD_keyFrom 48 = .ok (.if_icmp .ne (20), 3) := by decide +kernel
theorem d_MD_keyFrom_51 : decode b_MD_keyFrom 51 = .ok (.aload_n 0, 1) := by decide +kernel
theorem d_MD_keyFrom_52 : decode b_MD_keyFrom 52 = .ok (.getfield 23, 3) := by decide +kernel
theorem d_MD_keyFrom_55 : decode b_MD_keyFrom 55 = .ok (.iconst (4), 1) := by decide +kernel
theorem d_MD_keyFrom_56 : decode b_MD_keyFrom 56 = .ok (.iload 4, 2) := by decide +kernel
theorem d_MD_keyFrom_58 : decode b_MD_keyFrom 58 = .ok (.imul, 1) := by decide +kernel
theorem d_MD_keyFrom_59 : decode b_MD_keyFrom 59 = .ok (.iaload, 1) := by decide +kernel
theorem d_MD_keyFrom_60 : decode b_MD_keyFrom 60 = .ok (.iload_n 2, 1) := by decide +kernel
theorem d_MD_keyFrom_61 : decode b_MD_keyFrom 61 = .ok (.if_icmp .lt (7), 3) := by decide +kernel
theorem d_MD_keyFrom_64 : decode b_MD_keyFrom 64 = .ok (.iconst (1), 1) := by decide +kernel
theorem d_MD_keyFrom_65 : decode b_MD_keyFrom 65 = .ok (.goto (4), 3) := by decide +kernel
theorem d_MD_keyFrom_68 : decode b_MD_keyFrom 68 = .ok (.iconst (0), 1) := by decide +kernel
theorem d_MD_keyFrom_69 : decode b_MD_keyFrom 69 = .ok (.istore 5, 2) := by decide +kernel
theorem d_MD_keyFrom_71 : decode b_MD_keyFrom 71 = .ok (.iload 5, 2) := by decide +kernel
theorem d_MD_keyFrom_73 : decode b_MD_keyFrom 73 = .ok (.ifCond .eq (32), 3) := by decide +kernel
theorem d_MD_keyFrom_76 : decode b_MD_keyFrom 76 = .ok (.iload_n 3, 1) := by decide +kernel
theorem d_MD_keyFrom_77 : decode b_MD_keyFrom 77 = .ok (.ifCond .lt (23), 3) := by decide +kernel
theorem d_MD_keyFrom_80 : decode b_MD_keyFrom 80 = .ok (.aload_n 0, 1) := by decide +kernel
theorem d_MD_keyFrom_81 : decode b_MD_keyFrom 81 = .ok (.getfield 23, 3) := by decide +kernel
theorem d_MD_keyFrom_84 : decode b_MD_keyFrom 84 = .ok (.iconst (4), 1) := by decide +kernel
theorem d_MD_keyFrom_85 : decode b_MD_keyFrom 85 = .ok (.iload 4, 2) := by decide +kernel
theorem d_MD_keyFrom_87 : decode b_MD_keyFrom 87 = .ok (.imul, 1) := by decide +kernel
theorem d_MD_keyFrom_88 : decode b_MD_keyFrom 88 = .ok (.iaload, 1) := by decide +kernel
theorem d_MD_keyFrom_89 : decode b_MD_keyFrom 89 = .ok (.aload_n 0, 1) := by decide +kernel
theorem d_MD_keyFrom_90 : decode b_MD_keyFrom 90 = .ok (.getfield 23, 3) := by decide +kernel
theorem d_MD_keyFrom_93 : decode b_MD_keyFrom 93 = .ok (.iconst (4), 1) := by decide +kernel
theorem d_MD_keyFrom_94 : decode b_MD_keyFrom 94 = .ok (.iload_n 3, 1) := by decide +kernel
theorem d_MD_keyFrom_95 : decode b_MD_keyFrom 95 = .ok (.imul, 1) := by decide +kernel
theorem d_MD_keyFrom_96 : decode b_MD_keyFrom 96 = .ok (.iaload, 1) := by decide +kernel
theorem d_MD_keyFrom_97 : decode b_MD_keyFrom 97 = .ok (.if_icmp .ge (8), 3) := by decide +kernel
theorem d_MD_keyFrom_100 : decode b_MD_keyFrom 100 = .ok (.iload 4, 2) := by decide +kernel
theorem d_MD_keyFrom_102 : decode b_MD_keyFrom 102 = .ok (.goto (4), 3) := by decide +kernel
theorem d_MD_keyFrom_105 : decode b_MD_keyFrom 105 = .ok (.iload_n 3, 1) := by decide +kernel
theorem d_MD_keyFrom_106 : decode b_MD_keyFrom 106 = .ok (.istore_n 3, 1) := by decide +kernel
theorem d_MD_keyFrom_107 : decode b_MD_keyFrom 107 = .ok (.iinc 4 (1), 3) := by decide +kernel
theorem d_MD_keyFrom_110 : decode b_MD_keyFrom 110 = .ok (.goto (-79), 3) := by decide +kernel
theorem d_MD_keyFrom_113 : decode b_MD_keyFrom 113 = .ok (.aload_n 0, 1) := by decide +kernel
theorem d_MD_keyFrom_114 : decode b_MD_keyFrom 114 = .ok (.iload_n 3, 1) := by decide +kernel
theorem d_MD_keyFrom_115 : decode b_MD_keyFrom 115 = .ok (.ifCond .ge (7), 3) := by decide +kernel
theorem d_MD_keyFrom_118 : decode b_MD_keyFrom 118 = .ok (.iconst (2), 1) := by decide +kernel
theorem d_MD_keyFrom_119 : decode b_MD_keyFrom 119 = .ok (.goto (4), 3) := by decide +kernel
theorem d_MD_keyFrom_122 : decode b_MD_keyFrom 122 = .ok (.iconst (0), 1) := by decide +kernel
theorem d_MD_keyFrom_123 : decode b_MD_keyFrom 123 = .ok (.putfield 56, 3) := by decide +kernel
theorem d_MD_keyFrom_126 : decode b_MD_keyFrom 126 = .ok (.iload_n 3, 1) := by decide +kernel
theorem d_MD_keyFrom_127 : decode b_MD_keyFrom 127 = .ok (.ifCond .ge (7), 3) := by decide +kernel
theorem d_MD_keyFrom_130 : decode b_MD_keyFrom 130 = .ok (.iconst (0), 1) := by decide +kernel
theorem d_MD_keyFrom_131 : decode b_MD_keyFrom 131 = .ok (.goto (11), 3) := by decide +kernel
theorem d_MD_keyFrom_134 : decode b_MD_keyFrom 134 = .ok (.aload_n 0, 1) := by decide +kernel
theorem d_MD_keyFrom_135 : decode b_MD_keyFrom 135 = .ok (.getfield 23, 3) := by decide +kernel
theorem d_MD_keyFrom_138 : decode b_MD_keyFrom 138 = .ok (.iconst (4), 1) := by decide +kernel
theorem d_MD_keyFrom_139 : decode b_MD_keyFrom 139 = .ok (.iload_n 3, 1) := by decide +kernel
theorem d_MD_keyFrom_140 : decode b_MD_keyFrom 140 = .ok (.imul, 1) := by decide +kernel
theorem d_MD_keyFrom_141 : decode b_MD_keyFrom 141 = .ok (.iaload, 1) := by decide +kernel
theorem d_MD_keyFrom_142 : decode b_MD_keyFrom 142 = .ok (.ireturn, 1) := by decide +kernel
theorem s_MD_keyFrom_0 {E : mm_E} {Γ : mm_G} {lev kc ks ca sa : Nat} {w : mm_W} {f : mm_F} (h : mm_ok E Γ b_MD_keyFrom 6 "PlannedTablesModel" lev kc ks) (hw : mm_sh w) {x1 : Int32} {x2 : Int32} {vl0 vc0 vs0 : Nat} {P0 : Option Value → mm_W → mm_F → Prop} (hl0 : vl0 < lev) (hu0 : ca + vc0 ≤ kc) (hz0 : sa + vs0 ≤ ks) (m0 : mm_C E y_MD_isTable b_MD_isTable 2 (some .boolean) vl0 vc0 vs0 [mm_rf E 136, .int x1] w f P0) (k1 : ∀ (r : Option Value) (w1 : mm_W) (f1 : mm_F), P0 r w1 f1 → mm_go E Γ 6 6 [(0, mm_rf E 136), (1, .int x1), (2, .int x2)] (r.toList ++ [mm_rf E 136]) w1 f1 (ca + vc0) (sa + vs0)) : mm_go E Γ 6 0 [(0, mm_rf E 136), (1, .int x1), (2, .int x2)] [] w f ca sa := by
  refine mm_aload_n h d_MD_keyFrom_0 0 rfl rfl ?_
  refine mm_aload_n h d_MD_keyFrom_1 0 rfl rfl ?_
  refine mm_iload_n h d_MD_keyFrom_2 1 rfl rfl ?_
  exact mm_callV (As := [.int x1]) (rest := [mm_rf E 136]) h m0 cv_MD_63 cm_MD_isTable hl0 (q0 := _) rfl rfl (is_MO hw) hu0 hz0 rfl rfl (Nat.le_of_ble_eq_true rfl) d_MD_keyFrom_3 (fun r w1 f1 hp => k1 r w1 f1 hp)
theorem s_MD_keyFrom_6 {E : mm_E} {Γ : mm_G} {lev kc ks ca sa : Nat} {w : mm_W} {f : mm_F} (h : mm_ok E Γ b_MD_keyFrom 6 "PlannedTablesModel" lev kc ks) (hw : mm_sh w) {x1 : Int32} {x2 : Int32} {xk1 : Int32} (k0 : xk1 = 0 → mm_go E Γ 6 14 [(0, mm_rf E 136), (1, .int x1), (2, .int x2)] [.int 1, mm_rf E 136] w f ca sa) (k1 : ¬ xk1 = 0 → mm_go E Γ 6 14 [(0, mm_rf E 136), (1, .int x1), (2, .int x2)] [.int 0, mm_rf E 136] w f ca sa) : mm_go E Γ 6 6 [(0, mm_rf E 136), (1, .int x1), (2, .int x2)] [.int xk1, mm_rf E 136] w f ca sa := by
  refine mm_if_eq h d_MD_keyFrom_6 (tgt := 13) (by decide) (fun c1 => ?_) (fun c1 => ?_)
  · skip
    refine mm_iconst (v := 1) h d_MD_keyFrom_13 (by decide) ?_
    exact (k0 c1)
  · skip
    refine mm_iconst (v := 0) h d_MD_keyFrom_9 (by decide) ?_
    refine mm_goto h d_MD_keyFrom_10 (tgt := 14) (by decide) ?_
    exact (k1 c1)
theorem s_MD_keyFrom_14 {E : mm_E} {Γ : mm_G} {lev kc ks ca sa : Nat} {w : mm_W} {f : mm_F} {Post : Option Value → mm_W → mm_F → Prop} (h : mm_ok E Γ b_MD_keyFrom 6 "PlannedTablesModel" lev kc ks) (he : mm_end E Γ (some .int) kc ks Post y_MD_keyFrom.name) (hca : ca ≤ kc) (hsa : sa ≤ ks) (hw : mm_sh w) {x1 : Int32} {x2 : Int32} {xk1 : Int32} (k0 : ((mm_up f 136 0 xk1) 136 0) ≤ 0 → mm_go E Γ 6 31 [(0, mm_rf E 136), (1, .int x1), (2, .int x2), (3, .int (-1)), (4, .int 0)] [] w (mm_up f 136 0 xk1) ca sa) (k1 : ¬ ((mm_up f 136 0 xk1) 136 0) ≤ 0 → Post (some (.int 0)) w (mm_up f 136 0 xk1)) : mm_go E Γ 6 14 [(0, mm_rf E 136), (1, .int x1), (2, .int x2)] [.int xk1, mm_rf E 136] w f ca sa := by
  refine mm_puti h fl_MD_56 (Or.inl rfl) rfl rfl rfl (is_MO hw) d_MD_keyFrom_14 ?_
  refine mm_aload_n h d_MD_keyFrom_17 0 rfl rfl ?_
  refine mm_geti h fl_MD_56 rfl (is_MO hw) d_MD_keyFrom_18 ?_
  refine mm_if_le h d_MD_keyFrom_21 (tgt := 26) (by decide) (fun c1 => ?_) (fun c1 => ?_)
  · skip
    refine mm_iconst (v := (-1)) h d_MD_keyFrom_26 (by decide) ?_
    refine mm_istore_n (lv' := [(3, .int (-1)), (0, mm_rf E 136), (1, .int x1), (2, .int x2)]) h d_MD_keyFrom_27 rfl (by decide) rfl ?_
    refine mm_iconst (v := 0) h d_MD_keyFrom_28 (by decide) ?_
    refine mm_istore (lv' := [(4, .int 0), (3, .int (-1)), (0, mm_rf E 136), (1, .int x1), (2, .int x2)]) h d_MD_keyFrom_29 (by decide) rfl ?_
    refine mm_sub [2, 3, 4, 1, 0] rfl ?_
    exact (k0 c1)
  · skip
    refine mm_iconst (v := 0) h d_MD_keyFrom_24 (by decide) ?_
    exact mm_iret h he rfl d_MD_keyFrom_25 hca hsa (k1 c1)
theorem s_MD_keyFrom_31 {E : mm_E} {Γ : mm_G} {lev kc ks ca sa : Nat} {w : mm_W} {f : mm_F} (h : mm_ok E Γ b_MD_keyFrom 6 "PlannedTablesModel" lev kc ks) (hw : mm_sh w) {x1 : Int32} {x2 : Int32} {x3 : Int32} {x4 : Int32} (k0 : (f 136 5) ≤ x4 → 0 ≤ x3 → mm_go E Γ 6 123 [(0, mm_rf E 136), (1, .int x1), (2, .int x2), (3, .int x3), (4, .int x4)] [.int 0, mm_rf E 136] w f ca sa) (k1 : (f 136 5) ≤ x4 → ¬ 0 ≤ x3 → mm_go E Γ 6 123 [(0, mm_rf E 136), (1, .int x1), (2, .int x2), (3, .int x3), (4, .int x4)] [.int 2, mm_rf E 136] w f ca sa) (b2 : ¬ (f 136 5) ≤ x4 → vp_in x4 48) (k3 : ¬ (f 136 5) ≤ x4 → ¬ (f 140 (x4).toNatClampNeg) = x1 → mm_go E Γ 6 68 [(0, mm_rf E 136), (1, .int x1), (2, .int x2), (3, .int x3), (4, .int x4)] [] w f ca sa) (b4 : ¬ (f 136 5) ≤ x4 → (f 140 (x4).toNatClampNeg) = x1 → vp_in (4 * x4) 192) (k5 : ¬ (f 136 5) ≤ x4 → (f 140 (x4).toNatClampNeg) = x1 → (f 141 ((4 * x4)).toNatClampNeg) < x2 → mm_go E Γ 6 68 [(0, mm_rf E 136), (1, .int x1), (2, .int x2), (3, .int x3), (4, .int x4)] [] w f ca sa) (k6 : ¬ (f 136 5) ≤ x4 → (f 140 (x4).toNatClampNeg) = x1 → ¬ (f 141 ((4 * x4)).toNatClampNeg) < x2 → mm_go E Γ 6 69 [(0, mm_rf E 136), (1, .int x1), (2, .int x2), (3, .int x3), (4, .int x4)] [.int 1] w f ca sa) : mm_go E Γ 6 31 [(0, mm_rf E 136), (1, .int x1), (2, .int x2), (3, .int x3), (4, .int x4)] [] w f ca sa := by
  refine mm_iload h d_MD_keyFrom_31 4 rfl ?_
  refine mm_aload_n h d_MD_keyFrom_33 0 rfl rfl ?_
  refine mm_geti h fl_MD_71 rfl (is_MO hw) d_MD_keyFrom_34 ?_
  refine mm_icmp_ge h d_MD_keyFrom_37 (tgt := 113) (by decide) (fun c1 => ?_) (fun c1 => ?_)
  · skip
    refine mm_aload_n h d_MD_keyFrom_113 0 rfl rfl ?_
    refine mm_iload_n h d_MD_keyFrom_114 3 rfl rfl ?_
    refine mm_if_ge h d_MD_keyFrom_115 (tgt := 122) (by decide) (fun c2 => ?_) (fun c2 => ?_)
    · skip
      refine mm_iconst (v := 0) h d_MD_keyFrom_122 (by decide) ?_
      exact (k0 c1 c2)
    · skip
      refine mm_iconst (v := 2) h d_MD_keyFrom_118 (by decide) ?_
      refine mm_goto h d_MD_keyFrom_119 (tgt := 123) (by decide) ?_
      exact (k1 c1 c2)
  · skip
    refine mm_aload_n h d_MD_keyFrom_40 0 rfl rfl ?_
    refine mm_getr h fl_MD_20 rfl (is_MO hw) (rf_MO_of hw) (is_Mof hw).1.1 d_MD_keyFrom_41 ?_
    refine mm_iload h d_MD_keyFrom_44 4 rfl ?_
    refine mm_iald h (is_Mof hw) (b2 c1) d_MD_keyFrom_46 ?_
    refine mm_iload_n h d_MD_keyFrom_47 1 rfl rfl ?_
    refine mm_icmp_ne h d_MD_keyFrom_48 (tgt := 68) (by decide) (fun c2 => ?_) (fun c2 => ?_)
    · skip
      exact (k3 c1 c2)
    · skip
      refine mm_aload_n h d_MD_keyFrom_51 0 rfl rfl ?_
      refine mm_getr h fl_MD_23 rfl (is_MO hw) (rf_MO_cells hw) (is_Mcells hw).1.1 d_MD_keyFrom_52 ?_
      refine mm_iconst (v := 4) h d_MD_keyFrom_55 (by decide) ?_
      refine mm_iload h d_MD_keyFrom_56 4 rfl ?_
      refine mm_imul h d_MD_keyFrom_58 ?_
      refine mm_iald h (is_Mcells hw) (b4 c1 c2) d_MD_keyFrom_59 ?_
      refine mm_iload_n h d_MD_keyFrom_60 2 rfl rfl ?_
      refine mm_icmp_lt h d_MD_keyFrom_61 (tgt := 68) (by decide) (fun c3 => ?_) (fun c3 => ?_)
      · skip
        exact (k5 c1 c2 c3)
      · skip
        refine mm_iconst (v := 1) h d_MD_keyFrom_64 (by decide) ?_
        refine mm_goto h d_MD_keyFrom_65 (tgt := 69) (by decide) ?_
        exact (k6 c1 c2 c3)
theorem s_MD_keyFrom_68 {E : mm_E} {Γ : mm_G} {lev kc ks ca sa : Nat} {w : mm_W} {f : mm_F} (h : mm_ok E Γ b_MD_keyFrom 6 "PlannedTablesModel" lev kc ks) (hw : mm_sh w) {x1 : Int32} {x2 : Int32} {x3 : Int32} {x4 : Int32} (k0 : mm_go E Γ 6 69 [(0, mm_rf E 136), (1, .int x1), (2, .int x2), (3, .int x3), (4, .int x4)] [.int 0] w f ca sa) : mm_go E Γ 6 68 [(0, mm_rf E 136), (1, .int x1), (2, .int x2), (3, .int x3), (4, .int x4)] [] w f ca sa := by
  refine mm_iconst (v := 0) h d_MD_keyFrom_68 (by decide) ?_
  exact k0
theorem s_MD_keyFrom_69 {E : mm_E} {Γ : mm_G} {lev kc ks ca sa : Nat} {w : mm_W} {f : mm_F} (h : mm_ok E Γ b_MD_keyFrom 6 "PlannedTablesModel" lev kc ks) (hw : mm_sh w) {x1 : Int32} {x2 : Int32} {x3 : Int32} {x4 : Int32} {xk0 : Int32} (k0 : xk0 = 0 → mm_go E Γ 6 105 [(0, mm_rf E 136), (1, .int x1), (2, .int x2), (3, .int x3), (4, .int x4), (5, .int xk0)] [] w f ca sa) (k1 : ¬ xk0 = 0 → x3 < 0 → mm_go E Γ 6 100 [(0, mm_rf E 136), (1, .int x1), (2, .int x2), (3, .int x3), (4, .int x4), (5, .int xk0)] [] w f ca sa) (b2 : ¬ xk0 = 0 → ¬ x3 < 0 → vp_in (4 * x4) 192) (b3 : ¬ xk0 = 0 → ¬ x3 < 0 → vp_in (4 * x3) 192) (k4 : ¬ xk0 = 0 → ¬ x3 < 0 → (f 141 ((4 * x3)).toNatClampNeg) ≤ (f 141 ((4 * x4)).toNatClampNeg) → mm_go E Γ 6 105 [(0, mm_rf E 136), (1, .int x1), (2, .int x2), (3, .int x3), (4, .int x4), (5, .int xk0)] [] w f ca sa) (k5 : ¬ xk0 = 0 → ¬ x3 < 0 → ¬ (f 141 ((4 * x3)).toNatClampNeg) ≤ (f 141 ((4 * x4)).toNatClampNeg) → mm_go E Γ 6 100 [(0, mm_rf E 136), (1, .int x1), (2, .int x2), (3, .int x3), (4, .int x4), (5, .int xk0)] [] w f ca sa) : mm_go E Γ 6 69 [(0, mm_rf E 136), (1, .int x1), (2, .int x2), (3, .int x3), (4, .int x4)] [.int xk0] w f ca sa := by
  refine mm_istore (lv' := [(5, .int xk0), (0, mm_rf E 136), (1, .int x1), (2, .int x2), (3, .int x3), (4, .int x4)]) h d_MD_keyFrom_69 (by decide) rfl ?_
  refine mm_iload h d_MD_keyFrom_71 0 rfl ?_
  refine mm_if_eq h d_MD_keyFrom_73 (tgt := 105) (by decide) (fun c1 => ?_) (fun c1 => ?_)
  · skip
    refine mm_sub [1, 2, 3, 4, 5, 0] rfl ?_
    exact (k0 c1)
  · skip
    refine mm_iload_n h d_MD_keyFrom_76 4 rfl rfl ?_
    refine mm_if_lt h d_MD_keyFrom_77 (tgt := 100) (by decide) (fun c2 => ?_) (fun c2 => ?_)
    · skip
      refine mm_sub [1, 2, 3, 4, 5, 0] rfl ?_
      exact (k1 c1 c2)
    · skip
      refine mm_aload_n h d_MD_keyFrom_80 1 rfl rfl ?_
      refine mm_getr h fl_MD_23 rfl (is_MO hw) (rf_MO_cells hw) (is_Mcells hw).1.1 d_MD_keyFrom_81 ?_
      refine mm_iconst (v := 4) h d_MD_keyFrom_84 (by decide) ?_
      refine mm_iload h d_MD_keyFrom_85 5 rfl ?_
      refine mm_imul h d_MD_keyFrom_87 ?_
      refine mm_iald h (is_Mcells hw) (b2 c1 c2) d_MD_keyFrom_88 ?_
      refine mm_aload_n h d_MD_keyFrom_89 1 rfl rfl ?_
      refine mm_getr h fl_MD_23 rfl (is_MO hw) (rf_MO_cells hw) (is_Mcells hw).1.1 d_MD_keyFrom_90 ?_
      refine mm_iconst (v := 4) h d_MD_keyFrom_93 (by decide) ?_
      refine mm_iload_n h d_MD_keyFrom_94 4 rfl rfl ?_
      refine mm_imul h d_MD_keyFrom_95 ?_
      refine mm_iald h (is_Mcells hw) (b3 c1 c2) d_MD_keyFrom_96 ?_
      refine mm_icmp_ge h d_MD_keyFrom_97 (tgt := 105) (by decide) (fun c3 => ?_) (fun c3 => ?_)
      · skip
        refine mm_sub [1, 2, 3, 4, 5, 0] rfl ?_
        exact (k4 c1 c2 c3)
      · skip
        refine mm_sub [1, 2, 3, 4, 5, 0] rfl ?_
        exact (k5 c1 c2 c3)
theorem s_MD_keyFrom_100 {E : mm_E} {Γ : mm_G} {lev kc ks ca sa : Nat} {w : mm_W} {f : mm_F} (h : mm_ok E Γ b_MD_keyFrom 6 "PlannedTablesModel" lev kc ks) (hw : mm_sh w) {x1 : Int32} {x2 : Int32} {x3 : Int32} {x4 : Int32} {x5 : Int32} (k0 : mm_go E Γ 6 106 [(0, mm_rf E 136), (1, .int x1), (2, .int x2), (3, .int x3), (4, .int x4), (5, .int x5)] [.int x4] w f ca sa) : mm_go E Γ 6 100 [(0, mm_rf E 136), (1, .int x1), (2, .int x2), (3, .int x3), (4, .int x4), (5, .int x5)] [] w f ca sa := by
  refine mm_iload h d_MD_keyFrom_100 4 rfl ?_
  refine mm_goto h d_MD_keyFrom_102 (tgt := 106) (by decide) ?_
  exact k0
theorem s_MD_keyFrom_105 {E : mm_E} {Γ : mm_G} {lev kc ks ca sa : Nat} {w : mm_W} {f : mm_F} (h : mm_ok E Γ b_MD_keyFrom 6 "PlannedTablesModel" lev kc ks) (hw : mm_sh w) {x1 : Int32} {x2 : Int32} {x3 : Int32} {x4 : Int32} {x5 : Int32} (k0 : mm_go E Γ 6 106 [(0, mm_rf E 136), (1, .int x1), (2, .int x2), (3, .int x3), (4, .int x4), (5, .int x5)] [.int x3] w f ca sa) : mm_go E Γ 6 105 [(0, mm_rf E 136), (1, .int x1), (2, .int x2), (3, .int x3), (4, .int x4), (5, .int x5)] [] w f ca sa := by
  refine mm_iload_n h d_MD_keyFrom_105 3 rfl rfl ?_
  exact k0
theorem s_MD_keyFrom_106 {E : mm_E} {Γ : mm_G} {lev kc ks ca sa : Nat} {w : mm_W} {f : mm_F} (h : mm_ok E Γ b_MD_keyFrom 6 "PlannedTablesModel" lev kc ks) (hw : mm_sh w) {x1 : Int32} {x2 : Int32} {x3 : Int32} {x4 : Int32} {x5 : Int32} {xk0 : Int32} (k0 : mm_go E Γ 6 31 [(0, mm_rf E 136), (1, .int x1), (2, .int x2), (3, .int xk0), (4, .int (x4 + 1))] [] w f ca sa) : mm_go E Γ 6 106 [(0, mm_rf E 136), (1, .int x1), (2, .int x2), (3, .int x3), (4, .int x4), (5, .int x5)] [.int xk0] w f ca sa := by
  refine mm_istore_n (lv' := [(3, .int xk0), (0, mm_rf E 136), (1, .int x1), (2, .int x2), (4, .int x4), (5, .int x5)]) h d_MD_keyFrom_106 rfl (by decide) rfl ?_
  refine mm_iinc (lv' := [(4, .int (x4 + 1)), (3, .int xk0), (0, mm_rf E 136), (1, .int x1), (2, .int x2), (5, .int x5)]) h d_MD_keyFrom_107 4 rfl (congrArg (fun z => x4 + z) lit1) (by decide) rfl ?_
  refine mm_goto h d_MD_keyFrom_110 (tgt := 31) (by decide) ?_
  refine mm_sub [2, 3, 4, 1, 0] rfl ?_
  exact k0
theorem s_MD_keyFrom_123 {E : mm_E} {Γ : mm_G} {lev kc ks ca sa : Nat} {w : mm_W} {f : mm_F} (h : mm_ok E Γ b_MD_keyFrom 6 "PlannedTablesModel" lev kc ks) (hw : mm_sh w) {x1 : Int32} {x2 : Int32} {x3 : Int32} {x4 : Int32} {xk1 : Int32} (b0 : 0 ≤ x3 → vp_in (4 * x3) 192) (k1 : 0 ≤ x3 → mm_go E Γ 6 142 [(0, mm_rf E 136), (1, .int x1), (2, .int x2), (3, .int x3), (4, .int x4)] [.int ((mm_up f 136 0 xk1) 141 ((4 * x3)).toNatClampNeg)] w (mm_up f 136 0 xk1) ca sa) (k2 : ¬ 0 ≤ x3 → mm_go E Γ 6 142 [(0, mm_rf E 136), (1, .int x1), (2, .int x2), (3, .int x3), (4, .int x4)] [.int 0] w (mm_up f 136 0 xk1) ca sa) : mm_go E Γ 6 123 [(0, mm_rf E 136), (1, .int x1), (2, .int x2), (3, .int x3), (4, .int x4)] [.int xk1, mm_rf E 136] w f ca sa := by
  refine mm_puti h fl_MD_56 (Or.inl rfl) rfl rfl rfl (is_MO hw) d_MD_keyFrom_123 ?_
  refine mm_iload_n h d_MD_keyFrom_126 3 rfl rfl ?_
  refine mm_if_ge h d_MD_keyFrom_127 (tgt := 134) (by decide) (fun c1 => ?_) (fun c1 => ?_)
  · skip
    refine mm_aload_n h d_MD_keyFrom_134 0 rfl rfl ?_
    refine mm_getr h fl_MD_23 rfl (is_MO hw) (rf_MO_cells hw) (is_Mcells hw).1.1 d_MD_keyFrom_135 ?_
    refine mm_iconst (v := 4) h d_MD_keyFrom_138 (by decide) ?_
    refine mm_iload_n h d_MD_keyFrom_139 3 rfl rfl ?_
    refine mm_imul h d_MD_keyFrom_140 ?_
    refine mm_iald h (is_Mcells hw) (b0 c1) d_MD_keyFrom_141 ?_
    exact (k1 c1)
  · skip
    refine mm_iconst (v := 0) h d_MD_keyFrom_130 (by decide) ?_
    refine mm_goto h d_MD_keyFrom_131 (tgt := 142) (by decide) ?_
    exact (k2 c1)
theorem s_MD_keyFrom_142 {E : mm_E} {Γ : mm_G} {lev kc ks ca sa : Nat} {w : mm_W} {f : mm_F} {Post : Option Value → mm_W → mm_F → Prop} (h : mm_ok E Γ b_MD_keyFrom 6 "PlannedTablesModel" lev kc ks) (he : mm_end E Γ (some .int) kc ks Post y_MD_keyFrom.name) (hca : ca ≤ kc) (hsa : sa ≤ ks) (hw : mm_sh w) {x1 : Int32} {x2 : Int32} {x3 : Int32} {x4 : Int32} {xk0 : Int32} (k0 : Post (some (.int xk0)) w f) : mm_go E Γ 6 142 [(0, mm_rf E 136), (1, .int x1), (2, .int x2), (3, .int x3), (4, .int x4)] [.int xk0] w f ca sa := by
  exact mm_iret h he rfl d_MD_keyFrom_142 hca hsa k0
theorem d_MD_rows_0 : decode b_MD_rows 0 = .ok (.aload_n 0, 1) := by decide +kernel
theorem d_MD_rows_1 : decode b_MD_rows 1 = .ok (.iconst (0), 1) := by decide +kernel
theorem d_MD_rows_2 : decode b_MD_rows 2 = .ok (.putfield 56, 3) := by decide +kernel
theorem d_MD_rows_5 : decode b_MD_rows 5 = .ok (.aload_n 0, 1) := by decide +kernel
theorem d_MD_rows_6 : decode b_MD_rows 6 = .ok (.iload_n 1, 1) := by decide +kernel
theorem d_MD_rows_7 : decode b_MD_rows 7 = .ok (.invokevirtual 63, 3) := by decide +kernel
theorem d_MD_rows_10 : decode b_MD_rows 10 = .ok (.ifCond .eq (11), 3) := by decide +kernel
theorem d_MD_rows_13 : decode b_MD_rows 13 = .ok (.aload_n 0, 1) := by decide +kernel
theorem d_MD_rows_14 : decode b_MD_rows 14 = .ok (.iload_n 1, 1) := by decide +kernel
theorem d_MD_rows_15 : decode b_MD_rows 15 = .ok (.invokevirtual 78, 3) := by decide +kernel
theorem d_MD_rows_18 : decode b_MD_rows 18 = .ok (.goto (4), 3) := by decide +kernel
theorem d_MD_rows_21 : decode b_MD_rows 21 = .ok (.iconst (-1), 1) := by decide +kernel
theorem d_MD_rows_22 : decode b_MD_rows 22 = .ok (.ireturn, 1) := by decide +kernel
theorem s_MD_rows_0 {E : mm_E} {Γ : mm_G} {lev kc ks ca sa : Nat} {w : mm_W} {f : mm_F} (h : mm_ok E Γ b_MD_rows 2 "PlannedTablesModel" lev kc ks) (hw : mm_sh w) {x1 : Int32} {vl0 vc0 vs0 : Nat} {P0 : Option Value → mm_W → mm_F → Prop} (hl0 : vl0 < lev) (hu0 : ca + vc0 ≤ kc) (hz0 : sa + vs0 ≤ ks) (m0 : mm_C E y_MD_isTable b_MD_isTable 2 (some .boolean) vl0 vc0 vs0 [mm_rf E 136, .int x1] w (mm_up f 136 0 0) P0) (k1 : ∀ (r : Option Value) (w1 : mm_W) (f1 : mm_F), P0 r w1 f1 → mm_go E Γ 2 10 [(0, mm_rf E 136), (1, .int x1)] (r.toList ++ []) w1 f1 (ca + vc0) (sa + vs0)) : mm_go E Γ 2 0 [(0, mm_rf E 136), (1, .int x1)] [] w f ca sa := by
  refine mm_aload_n h d_MD_rows_0 0 rfl rfl ?_
  refine mm_iconst (v := 0) h d_MD_rows_1 (by decide) ?_
  refine mm_puti h fl_MD_56 (Or.inl rfl) rfl rfl rfl (is_MO hw) d_MD_rows_2 ?_
  refine mm_aload_n h d_MD_rows_5 0 rfl rfl ?_
  refine mm_iload_n h d_MD_rows_6 1 rfl rfl ?_
  exact mm_callV (As := [.int x1]) (rest := []) h m0 cv_MD_63 cm_MD_isTable hl0 (q0 := _) rfl rfl (is_MO hw) hu0 hz0 rfl rfl (Nat.le_of_ble_eq_true rfl) d_MD_rows_7 (fun r w1 f1 hp => k1 r w1 f1 hp)
theorem s_MD_rows_10 {E : mm_E} {Γ : mm_G} {lev kc ks ca sa : Nat} {w : mm_W} {f : mm_F} (h : mm_ok E Γ b_MD_rows 2 "PlannedTablesModel" lev kc ks) (hw : mm_sh w) {x1 : Int32} {xk0 : Int32} (k0 : xk0 = 0 → mm_go E Γ 2 22 [(0, mm_rf E 136), (1, .int x1)] [.int (-1)] w f ca sa) {vl0 vc0 vs0 : Nat} {P0 : Option Value → mm_W → mm_F → Prop} (hl0 : vl0 < lev) (hu0 : ca + vc0 ≤ kc) (hz0 : sa + vs0 ≤ ks) (m1 : ¬ xk0 = 0 → mm_C E y_MD_rowsOf b_MD_rowsOf 4 (some .int) vl0 vc0 vs0 [mm_rf E 136, .int x1] w f P0) (k2 : ¬ xk0 = 0 → ∀ (r : Option Value) (w1 : mm_W) (f1 : mm_F), P0 r w1 f1 → mm_go E Γ 2 18 [(0, mm_rf E 136), (1, .int x1)] (r.toList ++ []) w1 f1 (ca + vc0) (sa + vs0)) : mm_go E Γ 2 10 [(0, mm_rf E 136), (1, .int x1)] [.int xk0] w f ca sa := by
  refine mm_if_eq h d_MD_rows_10 (tgt := 21) (by decide) (fun c1 => ?_) (fun c1 => ?_)
  · skip
    refine mm_iconst (v := (-1)) h d_MD_rows_21 (by decide) ?_
    exact (k0 c1)
  · skip
    refine mm_aload_n h d_MD_rows_13 0 rfl rfl ?_
    refine mm_iload_n h d_MD_rows_14 1 rfl rfl ?_
    exact mm_callV (As := [.int x1]) (rest := []) h (m1 c1) cv_MD_78 cm_MD_rowsOf hl0 (q0 := _) rfl rfl (is_MO hw) hu0 hz0 rfl rfl (Nat.le_of_ble_eq_true rfl) d_MD_rows_15 (fun r w1 f1 hp => (k2 c1) r w1 f1 hp)
theorem s_MD_rows_18 {E : mm_E} {Γ : mm_G} {lev kc ks ca sa : Nat} {w : mm_W} {f : mm_F} (h : mm_ok E Γ b_MD_rows 2 "PlannedTablesModel" lev kc ks) (hw : mm_sh w) {x1 : Int32} {xk0 : Int32} (k0 : mm_go E Γ 2 22 [(0, mm_rf E 136), (1, .int x1)] [.int xk0] w f ca sa) : mm_go E Γ 2 18 [(0, mm_rf E 136), (1, .int x1)] [.int xk0] w f ca sa := by
  refine mm_goto h d_MD_rows_18 (tgt := 22) (by decide) ?_
  exact k0
theorem s_MD_rows_22 {E : mm_E} {Γ : mm_G} {lev kc ks ca sa : Nat} {w : mm_W} {f : mm_F} {Post : Option Value → mm_W → mm_F → Prop} (h : mm_ok E Γ b_MD_rows 2 "PlannedTablesModel" lev kc ks) (he : mm_end E Γ (some .int) kc ks Post y_MD_rows.name) (hca : ca ≤ kc) (hsa : sa ≤ ks) (hw : mm_sh w) {x1 : Int32} {xk0 : Int32} (k0 : Post (some (.int xk0)) w f) : mm_go E Γ 2 22 [(0, mm_rf E 136), (1, .int x1)] [.int xk0] w f ca sa := by
  exact mm_iret h he rfl d_MD_rows_22 hca hsa k0
theorem d_MD_word_0 : decode b_MD_word 0 = .ok (.aload_n 0, 1) := by decide +kernel
theorem d_MD_word_1 : decode b_MD_word 1 = .ok (.iconst (0), 1) := by decide +kernel
theorem d_MD_word_2 : decode b_MD_word 2 = .ok (.putfield 56, 3) := by decide +kernel
theorem d_MD_word_5 : decode b_MD_word 5 = .ok (.aload_n 0, 1) := by decide +kernel
theorem d_MD_word_6 : decode b_MD_word 6 = .ok (.getfield 82, 3) := by decide +kernel
theorem d_MD_word_9 : decode b_MD_word 9 = .ok (.bipush (40), 2) := by decide +kernel
theorem d_MD_word_11 : decode b_MD_word 11 = .ok (.if_icmp .ne (5), 3) := by decide +kernel
theorem d_MD_word_14 : decode b_MD_word 14 = .ok (.iconst (0), 1) := by decide +kernel
theorem d_MD_word_15 : decode b_MD_word 15 = .ok (.ireturn, 1) := by decide +kernel
theorem d_MD_word_16 : decode b_MD_word 16 = .ok (.aload_n 0, 1) := by decide +kernel
theorem d_MD_word_17 : decode b_MD_word 17 = .ok (.getfield 26, 3) := by decide +kernel
theorem d_MD_word_20 : decode b_MD_word 20 = .ok (.aload_n 0, 1) := by decide +kernel
theorem d_MD_word_21 : decode b_MD_word 21 = .ok (.getfield 82, 3) := by decide +kernel
theorem d_MD_word_24 : decode b_MD_word 24 = .ok (.iload_n 1, 1) := by decide +kernel
theorem d_MD_word_25 : decode b_MD_word 25 = .ok (.iastore, 1) := by decide +kernel
theorem d_MD_word_26 : decode b_MD_word 26 = .ok (.aload_n 0, 1) := by decide +kernel
theorem d_MD_word_27 : decode b_MD_word 27 = .ok (.aload_n 0, 1) := by decide +kernel
theorem d_MD_word_28 : decode b_MD_word 28 = .ok (.getfield 82, 3) := by decide +kernel
theorem d_MD_word_31 : decode b_MD_word 31 = .ok (.iconst (1), 1) := by decide +kernel
theorem d_MD_word_32 : decode b_MD_word 32 = .ok (.iadd, 1) := by decide +kernel
theorem d_MD_word_33 : decode b_MD_word 33 = .ok (.putfield 82, 3) := by decide +kernel
theorem d_MD_word_36 : decode b_MD_word 36 = .ok (.iconst (1), 1) := by decide +kernel
theorem d_MD_word_37 : decode b_MD_word 37 = .ok (.ireturn, 1) := by decide +kernel
theorem s_MD_word_0 {E : mm_E} {Γ : mm_G} {lev kc ks ca sa : Nat} {w : mm_W} {f : mm_F} {Post : Option Value → mm_W → mm_F → Prop} (h : mm_ok E Γ b_MD_word 2 "PlannedTablesModel" lev kc ks) (he : mm_end E Γ (some .boolean) kc ks Post y_MD_word.name) (hca : ca ≤ kc) (hsa : sa ≤ ks) (hw : mm_sh w) {x1 : Int32} (b0 : ¬ ((mm_up f 136 0 0) 136 8) = 40 → vp_in ((mm_up f 136 0 0) 136 8) 40) (k1 : ¬ ((mm_up f 136 0 0) 136 8) = 40 → Post (some (.int 1)) w (mm_up (mm_up (mm_up f 136 0 0) 142 (((mm_up f 136 0 0) 136 8)).toNatClampNeg x1) 136 8 (((mm_up (mm_up f 136 0 0) 142 (((mm_up f 136 0 0) 136 8)).toNatClampNeg x1) 136 8) + 1))) (k2 : ((mm_up f 136 0 0) 136 8) = 40 → Post (some (.int 0)) w (mm_up f 136 0 0)) : mm_go E Γ 2 0 [(0, mm_rf E 136), (1, .int x1)] [] w f ca sa := by
  refine mm_aload_n h d_MD_word_0 0 rfl rfl ?_
  refine mm_iconst (v := 0) h d_MD_word_1 (by decide) ?_
  refine mm_puti h fl_MD_56 (Or.inl rfl) rfl rfl rfl (is_MO hw) d_MD_word_2 ?_
  refine mm_aload_n h d_MD_word_5 0 rfl rfl ?_
  refine mm_geti h fl_MD_82 rfl (is_MO hw) d_MD_word_6 ?_
  refine mm_bipush (v := 40) h d_MD_word_9 (by decide) ?_
  refine mm_icmp_ne h d_MD_word_11 (tgt := 16) (by decide) (fun c1 => ?_) (fun c1 => ?_)
  · skip
    refine mm_aload_n h d_MD_word_16 0 rfl rfl ?_
    refine mm_getr h fl_MD_26 rfl (is_MO hw) (rf_MO_plan hw) (is_Mplan hw).1.1 d_MD_word_17 ?_
    refine mm_aload_n h d_MD_word_20 0 rfl rfl ?_
    refine mm_geti h fl_MD_82 rfl (is_MO hw) d_MD_word_21 ?_
    refine mm_iload_n h d_MD_word_24 1 rfl rfl ?_
    refine mm_iast h (is_Mplan hw) (b0 c1) d_MD_word_25 ?_
    refine mm_aload_n h d_MD_word_26 0 rfl rfl ?_
    refine mm_aload_n h d_MD_word_27 0 rfl rfl ?_
    refine mm_geti h fl_MD_82 rfl (is_MO hw) d_MD_word_28 ?_
    refine mm_iconst (v := 1) h d_MD_word_31 (by decide) ?_
    refine mm_iadd h d_MD_word_32 ?_
    refine mm_puti h fl_MD_82 (Or.inl rfl) rfl rfl rfl (is_MO hw) d_MD_word_33 ?_
    refine mm_iconst (v := 1) h d_MD_word_36 (by decide) ?_
    exact mm_iret h he rfl d_MD_word_37 hca hsa (k1 c1)
  · skip
    refine mm_iconst (v := 0) h d_MD_word_14 (by decide) ?_
    exact mm_iret h he rfl d_MD_word_15 hca hsa (k2 c1)
theorem d_MD_clear_0 : decode b_MD_clear 0 = .ok (.aload_n 0, 1) := by decide +kernel
theorem d_MD_clear_1 : decode b_MD_clear 1 = .ok (.iconst (0), 1) := by decide +kernel
theorem d_MD_clear_2 : decode b_MD_clear 2 = .ok (.putfield 56, 3) := by decide +kernel
theorem d_MD_clear_5 : decode b_MD_clear 5 = .ok (.aload_n 0, 1) := by decide +kernel
theorem d_MD_clear_6 : decode b_MD_clear 6 = .ok (.getfield 82, 3) := by decide +kernel
theorem d_MD_clear_9 : decode b_MD_clear 9 = .ok (.istore_n 1, 1) := by decide +kernel
theorem d_MD_clear_10 : decode b_MD_clear 10 = .ok (.aload_n 0, 1) := by decide +kernel
theorem d_MD_clear_11 : decode b_MD_clear 11 = .ok (.iconst (0), 1) := by decide +kernel
theorem d_MD_clear_12 : decode b_MD_clear 12 = .ok (.putfield 82, 3) := by decide +kernel
theorem d_MD_clear_15 : decode b_MD_clear 15 = .ok (.iload_n 1, 1) := by decide +kernel
theorem d_MD_clear_16 : decode b_MD_clear 16 = .ok (.ireturn, 1) := by decide +kernel
theorem s_MD_clear_0 {E : mm_E} {Γ : mm_G} {lev kc ks ca sa : Nat} {w : mm_W} {f : mm_F} {Post : Option Value → mm_W → mm_F → Prop} (h : mm_ok E Γ b_MD_clear 2 "PlannedTablesModel" lev kc ks) (he : mm_end E Γ (some .int) kc ks Post y_MD_clear.name) (hca : ca ≤ kc) (hsa : sa ≤ ks) (hw : mm_sh w)  (k0 : Post (some (.int ((mm_up f 136 0 0) 136 8))) w (mm_up (mm_up f 136 0 0) 136 8 0)) : mm_go E Γ 2 0 [(0, mm_rf E 136)] [] w f ca sa := by
  refine mm_aload_n h d_MD_clear_0 0 rfl rfl ?_
  refine mm_iconst (v := 0) h d_MD_clear_1 (by decide) ?_
  refine mm_puti h fl_MD_56 (Or.inl rfl) rfl rfl rfl (is_MO hw) d_MD_clear_2 ?_
  refine mm_aload_n h d_MD_clear_5 0 rfl rfl ?_
  refine mm_geti h fl_MD_82 rfl (is_MO hw) d_MD_clear_6 ?_
  refine mm_istore_n (lv' := [(1, .int ((mm_up f 136 0 0) 136 8)), (0, mm_rf E 136)]) h d_MD_clear_9 rfl (by decide) rfl ?_
  refine mm_aload_n h d_MD_clear_10 1 rfl rfl ?_
  refine mm_iconst (v := 0) h d_MD_clear_11 (by decide) ?_
  refine mm_puti h fl_MD_82 (Or.inl rfl) rfl rfl rfl (is_MO hw) d_MD_clear_12 ?_
  refine mm_iload_n h d_MD_clear_15 0 rfl rfl ?_
  exact mm_iret h he rfl d_MD_clear_16 hca hsa k0
theorem d_MD_demand_0 : decode b_MD_demand 0 = .ok (.aload_n 0, 1) := by decide +kernel
theorem d_MD_demand_1 : decode b_MD_demand 1 = .ok (.getfield 85, 3) := by decide +kernel
theorem d_MD_demand_4 : decode b_MD_demand 4 = .ok (.ifCond .ge (35), 3) := by decide +kernel
theorem d_MD_demand_7 : decode b_MD_demand 7 = .ok (.iload_n 1, 1) := by decide +kernel
theorem d_MD_demand_8 : decode b_MD_demand 8 = .ok (.aload_n 0, 1) := by decide +kernel
theorem d_MD_demand_9 : decode b_MD_demand 9 = .ok (.getfield 82, 3) := by decide +kernel
theorem d_MD_demand_12 : decode b_MD_demand 12 = .ok (.if_icmp .ge (7), 3) := by decide +kernel
theorem d_MD_demand_15 : decode b_MD_demand 15 = .ok (.iload_n 2, 1) := by decide +kernel
theorem d_MD_demand_16 : decode b_MD_demand 16 = .ok (.ifCond .ne (23), 3) := by decide +kernel
theorem d_MD_demand_19 : decode b_MD_demand 19 = .ok (.aload_n 0, 1) := by decide +kernel
theorem d_MD_demand_20 : decode b_MD_demand 20 = .ok (.iload_n 1, 1) := by decide +kernel
theorem d_MD_demand_21 : decode b_MD_demand 21 = .ok (.aload_n 0, 1) := by decide +kernel
theorem d_MD_demand_22 : decode b_MD_demand 22 = .ok (.getfield 82, 3) := by decide +kernel
theorem d_MD_demand_25 : decode b_MD_demand 25 = .ok (.if_icmp .lt (10), 3) := by decide +kernel
theorem d_MD_demand_28 : decode b_MD_demand 28 = .ok (.aload_n 0, 1) := by decide +kernel
theorem d_MD_demand_29 : decode b_MD_demand 29 = .ok (.getfield 82, 3) := by decide +kernel
theorem d_MD_demand_32 : decode b_MD_demand 32 = .ok (.goto (4), 3) := by decide +kernel
theorem d_MD_demand_35 : decode b_MD_demand 35 = .ok (.iload_n 1, 1) := by decide +kernel
theorem d_MD_demand_36 : decode b_MD_demand 36 = .ok (.putfield 85, 3) := by decide +kernel
theorem d_MD_demand_39 : decode b_MD_demand 39 = .ok (.return_, 1) := by decide +kernel
theorem s_MD_demand_0 {E : mm_E} {Γ : mm_G} {lev kc ks ca sa : Nat} {w : mm_W} {f : mm_F} (h : mm_ok E Γ b_MD_demand 3 "PlannedTablesModel" lev kc ks) (hw : mm_sh w) {x1 : Int32} {x2 : Int32} (k0 : 0 ≤ (f 136 11) → mm_go E Γ 3 39 [(0, mm_rf E 136), (1, .int x1), (2, .int x2)] [] w f ca sa) (k1 : ¬ 0 ≤ (f 136 11) → (f 136 8) ≤ x1 → mm_go E Γ 3 19 [(0, mm_rf E 136), (1, .int x1), (2, .int x2)] [] w f ca sa) (k2 : ¬ 0 ≤ (f 136 11) → ¬ (f 136 8) ≤ x1 → ¬ x2 = 0 → mm_go E Γ 3 39 [(0, mm_rf E 136), (1, .int x1), (2, .int x2)] [] w f ca sa) (k3 : ¬ 0 ≤ (f 136 11) → ¬ (f 136 8) ≤ x1 → x2 = 0 → mm_go E Γ 3 19 [(0, mm_rf E 136), (1, .int x1), (2, .int x2)] [] w f ca sa) : mm_go E Γ 3 0 [(0, mm_rf E 136), (1, .int x1), (2, .int x2)] [] w f ca sa := by
  refine mm_aload_n h d_MD_demand_0 0 rfl rfl ?_
  refine mm_geti h fl_MD_85 rfl (is_MO hw) d_MD_demand_1 ?_
  refine mm_if_ge h d_MD_demand_4 (tgt := 39) (by decide) (fun c1 => ?_) (fun c1 => ?_)
  · skip
    exact (k0 c1)
  · skip
    refine mm_iload_n h d_MD_demand_7 1 rfl rfl ?_
    refine mm_aload_n h d_MD_demand_8 0 rfl rfl ?_
    refine mm_geti h fl_MD_82 rfl (is_MO hw) d_MD_demand_9 ?_
    refine mm_icmp_ge h d_MD_demand_12 (tgt := 19) (by decide) (fun c2 => ?_) (fun c2 => ?_)
    · skip
      exact (k1 c1 c2)
    · skip
      refine mm_iload_n h d_MD_demand_15 2 rfl rfl ?_
      refine mm_if_ne h d_MD_demand_16 (tgt := 39) (by decide) (fun c3 => ?_) (fun c3 => ?_)
      · skip
        exact (k2 c1 c2 c3)
      · skip
        exact (k3 c1 c2 c3)
theorem s_MD_demand_19 {E : mm_E} {Γ : mm_G} {lev kc ks ca sa : Nat} {w : mm_W} {f : mm_F} (h : mm_ok E Γ b_MD_demand 3 "PlannedTablesModel" lev kc ks) (hw : mm_sh w) {x1 : Int32} {x2 : Int32} (k0 : x1 < (f 136 8) → mm_go E Γ 3 36 [(0, mm_rf E 136), (1, .int x1), (2, .int x2)] [.int x1, mm_rf E 136] w f ca sa) (k1 : ¬ x1 < (f 136 8) → mm_go E Γ 3 36 [(0, mm_rf E 136), (1, .int x1), (2, .int x2)] [.int (f 136 8), mm_rf E 136] w f ca sa) : mm_go E Γ 3 19 [(0, mm_rf E 136), (1, .int x1), (2, .int x2)] [] w f ca sa := by
  refine mm_aload_n h d_MD_demand_19 0 rfl rfl ?_
  refine mm_iload_n h d_MD_demand_20 1 rfl rfl ?_
  refine mm_aload_n h d_MD_demand_21 0 rfl rfl ?_
  refine mm_geti h fl_MD_82 rfl (is_MO hw) d_MD_demand_22 ?_
  refine mm_icmp_lt h d_MD_demand_25 (tgt := 35) (by decide) (fun c1 => ?_) (fun c1 => ?_)
  · skip
    refine mm_iload_n h d_MD_demand_35 1 rfl rfl ?_
    exact (k0 c1)
  · skip
    refine mm_aload_n h d_MD_demand_28 0 rfl rfl ?_
    refine mm_geti h fl_MD_82 rfl (is_MO hw) d_MD_demand_29 ?_
    refine mm_goto h d_MD_demand_32 (tgt := 36) (by decide) ?_
    exact (k1 c1)
theorem s_MD_demand_36 {E : mm_E} {Γ : mm_G} {lev kc ks ca sa : Nat} {w : mm_W} {f : mm_F} (h : mm_ok E Γ b_MD_demand 3 "PlannedTablesModel" lev kc ks) (hw : mm_sh w) {x1 : Int32} {x2 : Int32} {xk1 : Int32} (k0 : mm_go E Γ 3 39 [(0, mm_rf E 136), (1, .int x1), (2, .int x2)] [] w (mm_up f 136 11 xk1) ca sa) : mm_go E Γ 3 36 [(0, mm_rf E 136), (1, .int x1), (2, .int x2)] [.int xk1, mm_rf E 136] w f ca sa := by
  refine mm_puti h fl_MD_85 (Or.inl rfl) rfl rfl rfl (is_MO hw) d_MD_demand_36 ?_
  exact k0
theorem s_MD_demand_39 {E : mm_E} {Γ : mm_G} {lev kc ks ca sa : Nat} {w : mm_W} {f : mm_F} {Post : Option Value → mm_W → mm_F → Prop} (h : mm_ok E Γ b_MD_demand 3 "PlannedTablesModel" lev kc ks) (he : mm_end E Γ none kc ks Post y_MD_demand.name) (hca : ca ≤ kc) (hsa : sa ≤ ks) (hw : mm_sh w) {x1 : Int32} {x2 : Int32} (k0 : Post none w f) : mm_go E Γ 3 39 [(0, mm_rf E 136), (1, .int x1), (2, .int x2)] [] w f ca sa := by
  exact mm_vret h he d_MD_demand_39 hca hsa k0
theorem d_MD_wordAt_0 : decode b_MD_wordAt 0 = .ok (.iload_n 1, 1) := by decide +kernel
theorem d_MD_wordAt_1 : decode b_MD_wordAt 1 = .ok (.aload_n 0, 1) := by decide +kernel
theorem d_MD_wordAt_2 : decode b_MD_wordAt 2 = .ok (.getfield 82, 3) := by decide +kernel
theorem d_MD_wordAt_5 : decode b_MD_wordAt 5 = .ok (.if_icmp .ge (12), 3) := by decide +kernel
theorem d_MD_wordAt_8 : decode b_MD_wordAt 8 = .ok (.aload_n 0, 1) := by decide +kernel
theorem d_MD_wordAt_9 : decode b_MD_wordAt 9 = .ok (.getfield 26, 3) := by decide +kernel
theorem d_MD_wordAt_12 : decode b_MD_wordAt 12 = .ok (.iload_n 1, 1) := by decide +kernel
theorem d_MD_wordAt_13 : decode b_MD_wordAt 13 = .ok (.iaload, 1) := by decide +kernel
theorem d_MD_wordAt_14 : decode b_MD_wordAt 14 = .ok (.goto (4), 3) := by decide +kernel
theorem d_MD_wordAt_17 : decode b_MD_wordAt 17 = .ok (.iconst (0), 1) := by decide +kernel
theorem d_MD_wordAt_18 : decode b_MD_wordAt 18 = .ok (.ireturn, 1) := by decide +kernel
theorem s_MD_wordAt_0 {E : mm_E} {Γ : mm_G} {lev kc ks ca sa : Nat} {w : mm_W} {f : mm_F} (h : mm_ok E Γ b_MD_wordAt 2 "PlannedTablesModel" lev kc ks) (hw : mm_sh w) {x1 : Int32} (k0 : (f 136 8) ≤ x1 → mm_go E Γ 2 18 [(0, mm_rf E 136), (1, .int x1)] [.int 0] w f ca sa) (b1 : ¬ (f 136 8) ≤ x1 → vp_in x1 40) (k2 : ¬ (f 136 8) ≤ x1 → mm_go E Γ 2 18 [(0, mm_rf E 136), (1, .int x1)] [.int (f 142 (x1).toNatClampNeg)] w f ca sa) : mm_go E Γ 2 0 [(0, mm_rf E 136), (1, .int x1)] [] w f ca sa := by
  refine mm_iload_n h d_MD_wordAt_0 1 rfl rfl ?_
  refine mm_aload_n h d_MD_wordAt_1 0 rfl rfl ?_
  refine mm_geti h fl_MD_82 rfl (is_MO hw) d_MD_wordAt_2 ?_
  refine mm_icmp_ge h d_MD_wordAt_5 (tgt := 17) (by decide) (fun c1 => ?_) (fun c1 => ?_)
  · skip
    refine mm_iconst (v := 0) h d_MD_wordAt_17 (by decide) ?_
    exact (k0 c1)
  · skip
    refine mm_aload_n h d_MD_wordAt_8 0 rfl rfl ?_
    refine mm_getr h fl_MD_26 rfl (is_MO hw) (rf_MO_plan hw) (is_Mplan hw).1.1 d_MD_wordAt_9 ?_
    refine mm_iload_n h d_MD_wordAt_12 1 rfl rfl ?_
    refine mm_iald h (is_Mplan hw) (b1 c1) d_MD_wordAt_13 ?_
    refine mm_goto h d_MD_wordAt_14 (tgt := 18) (by decide) ?_
    exact (k2 c1)
theorem s_MD_wordAt_18 {E : mm_E} {Γ : mm_G} {lev kc ks ca sa : Nat} {w : mm_W} {f : mm_F} {Post : Option Value → mm_W → mm_F → Prop} (h : mm_ok E Γ b_MD_wordAt 2 "PlannedTablesModel" lev kc ks) (he : mm_end E Γ (some .int) kc ks Post y_MD_wordAt.name) (hca : ca ≤ kc) (hsa : sa ≤ ks) (hw : mm_sh w) {x1 : Int32} {xk0 : Int32} (k0 : Post (some (.int xk0)) w f) : mm_go E Γ 2 18 [(0, mm_rf E 136), (1, .int x1)] [.int xk0] w f ca sa := by
  exact mm_iret h he rfl d_MD_wordAt_18 hca hsa k0
theorem d_MD_readSource_0 : decode b_MD_readSource 0 = .ok (.aload_n 0, 1) := by decide +kernel
theorem d_MD_readSource_1 : decode b_MD_readSource 1 = .ok (.getfield 29, 3) := by decide +kernel
theorem d_MD_readSource_4 : decode b_MD_readSource 4 = .ok (.iconst (0), 1) := by decide +kernel
theorem d_MD_readSource_5 : decode b_MD_readSource 5 = .ok (.aload_n 0, 1) := by decide +kernel
theorem d_MD_readSource_6 : decode b_MD_readSource 6 = .ok (.iconst (0), 1) := by decide +kernel
theorem d_MD_readSource_7 : decode b_MD_readSource 7 = .ok (.invokevirtual 88, 3) := by decide +kernel
theorem d_MD_readSource_10 : decode b_MD_readSource 10 = .ok (.iastore, 1) := by decide +kernel
theorem d_MD_readSource_11 : decode b_MD_readSource 11 = .ok (.aload_n 0, 1) := by decide +kernel
theorem d_MD_readSource_12 : decode b_MD_readSource 12 = .ok (.getfield 32, 3) := by decide +kernel
theorem d_MD_readSource_15 : decode b_MD_readSource 15 = .ok (.iconst (0), 1) := by decide +kernel
theorem d_MD_readSource_16 : decode b_MD_readSource 16 = .ok (.iconst (1), 1) := by decide +kernel
theorem d_MD_readSource_17 : decode b_MD_readSource 17 = .ok (.iastore, 1) := by decide +kernel
theorem d_MD_readSource_18 : decode b_MD_readSource 18 = .ok (.aload_n 0, 1) := by decide +kernel
theorem d_MD_readSource_19 : decode b_MD_readSource 19 = .ok (.iconst (0), 1) := by decide +kernel
theorem d_MD_readSource_20 : decode b_MD_readSource 20 = .ok (.aload_n 0, 1) := by decide +kernel
theorem d_MD_readSource_21 : decode b_MD_readSource 21 = .ok (.getfield 29, 3) := by decide +kernel
theorem d_MD_readSource_24 : decode b_MD_readSource 24 = .ok (.iconst (0), 1) := by decide +kernel
theorem d_MD_readSource_25 : decode b_MD_readSource 25 = .ok (.iaload, 1) := by decide +kernel
theorem d_MD_readSource_26 : decode b_MD_readSource 26 = .ok (.iconst (1), 1) := by decide +kernel
theorem d_MD_readSource_27 : decode b_MD_readSource 27 = .ok (.if_icmp .eq (13), 3) := by decide +kernel
theorem d_MD_readSource_30 : decode b_MD_readSource 30 = .ok (.aload_n 0, 1) := by decide +kernel
theorem d_MD_readSource_31 : decode b_MD_readSource 31 = .ok (.getfield 29, 3) := by decide +kernel
theorem d_MD_readSource_34 : decode b_MD_readSource 34 = .ok (.iconst (0), 1) := by decide +kernel
theorem d_MD_readSource_35 : decode b_MD_readSource 35 = .ok (.iaload, 1) := by decide +kernel
theorem d_MD_readSource_36 : decode b_MD_readSource 36 = .ok (.iconst (2), 1) := by decide +kernel
theorem d_MD_readSource_37 : decode b_MD_readSource 37 = .ok (.if_icmp .ne (7), 3) := by decide +kernel
theorem d_MD_readSource_40 : decode b_MD_readSource 40 = .ok (.iconst (1), 1) := by decide +kernel
theorem d_MD_readSource_41 : decode b_MD_readSource 41 = .ok (.goto (4), 3) := by decide +kernel
theorem d_MD_readSource_44 : decode b_MD_readSource 44 = .ok (.iconst (0), 1) := by decide +kernel
theorem d_MD_readSource_45 : decode b_MD_readSource 45 = .ok (.invokevirtual 91, 3) := by decide +kernel
theorem d_MD_readSource_48 : decode b_MD_readSource 48 = .ok (.aload_n 0, 1) := by decide +kernel
theorem d_MD_readSource_49 : decode b_MD_readSource 49 = .ok (.iconst (1), 1) := by decide +kernel
theorem d_MD_readSource_50 : decode b_MD_readSource 50 = .ok (.invokevirtual 88, 3) := by decide +kernel
theorem d_MD_readSource_53 : decode b_MD_readSource 53 = .ok (.istore_n 1, 1) := by decide +kernel
theorem d_MD_readSource_54 : decode b_MD_readSource 54 = .ok (.aload_n 0, 1) := by decide +kernel
theorem d_MD_readSource_55 : decode b_MD_readSource 55 = .ok (.iconst (1), 1) := by decide +kernel
theorem d_MD_readSource_56 : decode b_MD_readSource 56 = .ok (.aload_n 0, 1) := by decide +kernel
theorem d_MD_readSource_57 : decode b_MD_readSource 57 = .ok (.iload_n 1, 1) := by decide +kernel
theorem d_MD_readSource_58 : decode b_MD_readSource 58 = .ok (.invokevirtual 63, 3) := by decide +kernel
theorem d_MD_readSource_61 : decode b_MD_readSource 61 = .ok (.invokevirtual 91, 3) := by decide +kernel
theorem d_MD_readSource_64 : decode b_MD_readSource 64 = .ok (.aload_n 0, 1) := by decide +kernel
theorem d_MD_readSource_65 : decode b_MD_readSource 65 = .ok (.getfield 85, 3) := by decide +kernel
theorem d_MD_readSource_68 : decode b_MD_readSource 68 = .ok (.ifCond .lt (4), 3) := by decide +kernel
theorem d_MD_readSource_71 : decode b_MD_readSource 71 = .ok (.return_, 1) := by decide +kernel
theorem d_MD_readSource_72 : decode b_MD_readSource 72 = .ok (.aload_n 0, 1) := by decide +kernel
theorem d_MD_readSource_73 : decode b_MD_readSource 73 = .ok (.aload_n 0, 1) := by decide +kernel
theorem d_MD_readSource_74 : decode b_MD_readSource 74 = .ok (.getfield 7, 3) := by decide +kernel
theorem d_MD_readSource_77 : decode b_MD_readSource 77 = .ok (.iload_n 1, 1) := by decide +kernel
theorem d_MD_readSource_78 : decode b_MD_readSource 78 = .ok (.iaload, 1) := by decide +kernel
theorem d_MD_readSource_79 : decode b_MD_readSource 79 = .ok (.putfield 95, 3) := by decide +kernel
theorem d_MD_readSource_82 : decode b_MD_readSource 82 = .ok (.aload_n 0, 1) := by decide +kernel
theorem d_MD_readSource_83 : decode b_MD_readSource 83 = .ok (.getfield 29, 3) := by decide +kernel
theorem d_MD_readSource_86 : decode b_MD_readSource 86 = .ok (.iconst (0), 1) := by decide +kernel
theorem d_MD_readSource_87 : decode b_MD_readSource 87 = .ok (.iaload, 1) := by decide +kernel
theorem d_MD_readSource_88 : decode b_MD_readSource 88 = .ok (.iconst (2), 1) := by decide +kernel
theorem d_MD_readSource_89 : decode b_MD_readSource 89 = .ok (.if_icmp .ne (55), 3) := by decide +kernel
theorem d_MD_readSource_92 : decode b_MD_readSource 92 = .ok (.aload_n 0, 1) := by decide +kernel
theorem d_MD_readSource_93 : decode b_MD_readSource 93 = .ok (.iconst (2), 1) := by decide +kernel
theorem d_MD_readSource_94 : decode b_MD_readSource 94 = .ok (.invokevirtual 88, 3) := by decide +kernel
theorem d_MD_readSource_97 : decode b_MD_readSource 97 = .ok (.istore_n 2, 1) := by decide +kernel
theorem d_MD_readSource_98 : decode b_MD_readSource 98 = .ok (.aload_n 0, 1) := by decide +kernel
theorem d_MD_readSource_99 : decode b_MD_readSource 99 = .ok (.iconst (2), 1) := by decide +kernel
theorem d_MD_readSource_100 : decode b_MD_readSource 100 = .ok (.aload_n 0, 1) := by decide +kernel
theorem d_MD_readSource_101 : decode b_MD_readSource 101 = .ok (.iload_n 1, 1) := by decide +kernel
theorem d_MD_readSource_102 : decode b_MD_readSource 102 = .ok (.iload_n 2, 1) := by decide +kernel
theorem d_MD_readSource_103 : decode b_MD_readSource 103 = .ok (.invokevirtual 67, 3) := by decide +kernel
theorem d_MD_readSource_106 : decode b_MD_readSource 106 = .ok (.ifCond .eq (22), 3) := by decide +kernel
theorem d_MD_readSource_109 : decode b_MD_readSource 109 = .ok (.aload_n 0, 1) := by decide +kernel
theorem d_MD_readSource_110 : decode b_MD_readSource 110 = .ok (.getfield 13, 3) := by decide +kernel
theorem d_MD_readSource_113 : decode b_MD_readSource 113 = .ok (.iconst (4), 1) := by decide +kernel
theorem d_MD_readSource_114 : decode b_MD_readSource 114 = .ok (.iload_n 1, 1) := by decide +kernel
theorem d_MD_readSource_115 : decode b_MD_readSource 115 = .ok (.imul, 1) := by decide +kernel
theorem d_MD_readSource_116 : decode b_MD_readSource 116 = .ok (.iload_n 2, 1) := by decide +kernel
theorem d_MD_readSource_117 : decode b_MD_readSource 117 = .ok (.iconst (3), 1) := by decide +kernel
theorem d_MD_readSource_118 : decode b_MD_readSource 118 = .ok (.iand, 1) := by decide +kernel
theorem d_MD_readSource_119 : decode b_MD_readSource 119 = .ok (.iadd, 1) := by decide +kernel
theorem d_MD_readSource_120 : decode b_MD_readSource 120 = .ok (.baload, 1) := by decide +kernel
theorem d_MD_readSource_121 : decode b_MD_readSource 121 = .ok (.ifCond .eq (7), 3) := by decide +kernel
theorem d_MD_readSource_124 : decode b_MD_readSource 124 = .ok (.iconst (1), 1) := by decide +kernel
theorem d_MD_readSource_125 : decode b_MD_readSource 125 = .ok (.goto (4), 3) := by decide +kernel
theorem d_MD_readSource_128 : decode b_MD_readSource 128 = .ok (.iconst (0), 1) := by decide +kernel
theorem d_MD_readSource_129 : decode b_MD_readSource 129 = .ok (.invokevirtual 91, 3) := by decide +kernel
theorem d_MD_readSource_132 : decode b_MD_readSource 132 = .ok (.aload_n 0, 1) := by decide +kernel
theorem d_MD_readSource_133 : decode b_MD_readSource 133 = .ok (.iconst (3), 1) := by decide +kernel
theorem d_MD_readSource_134 : decode b_MD_readSource 134 = .ok (.iconst (1), 1) := by decide +kernel
theorem d_MD_readSource_135 : decode b_MD_readSource 135 = .ok (.invokevirtual 91, 3) := by decide +kernel
theorem d_MD_readSource_138 : decode b_MD_readSource 138 = .ok (.aload_n 0, 1) := by decide +kernel
theorem d_MD_readSource_139 : decode b_MD_readSource 139 = .ok (.iconst (4), 1) := by decide +kernel
theorem d_MD_readSource_140 : decode b_MD_readSource 140 = .ok (.iconst (1), 1) := by decide +kernel
theorem d_MD_readSource_141 : decode b_MD_readSource 141 = .ok (.invokevirtual 91, 3) := by decide +kernel
theorem d_MD_readSource_144 : decode b_MD_readSource 144 = .ok (.return_, 1) := by decide +kernel
theorem s_MD_readSource_0 {E : mm_E} {Γ : mm_G} {lev kc ks ca sa : Nat} {w : mm_W} {f : mm_F} (h : mm_ok E Γ b_MD_readSource 3 "PlannedTablesModel" lev kc ks) (hw : mm_sh w)  {vl0 vc0 vs0 : Nat} {P0 : Option Value → mm_W → mm_F → Prop} (hl0 : vl0 < lev) (hu0 : ca + vc0 ≤ kc) (hz0 : sa + vs0 ≤ ks) (m0 : mm_C E y_MD_wordAt b_MD_wordAt 2 (some .int) vl0 vc0 vs0 [mm_rf E 136, .int 0] w f P0) (k1 : ∀ (r : Option Value) (w1 : mm_W) (f1 : mm_F), P0 r w1 f1 → mm_go E Γ 3 10 [(0, mm_rf E 136)] (r.toList ++ [.int 0, mm_rf E 143]) w1 f1 (ca + vc0) (sa + vs0)) : mm_go E Γ 3 0 [(0, mm_rf E 136)] [] w f ca sa := by
  refine mm_aload_n h d_MD_readSource_0 0 rfl rfl ?_
  refine mm_getr h fl_MD_29 rfl (is_MO hw) (rf_MO_ops hw) (is_Mops hw).1.1 d_MD_readSource_1 ?_
  refine mm_iconst (v := 0) h d_MD_readSource_4 (by decide) ?_
  refine mm_aload_n h d_MD_readSource_5 0 rfl rfl ?_
  refine mm_iconst (v := 0) h d_MD_readSource_6 (by decide) ?_
  exact mm_callV (As := [.int 0]) (rest := [.int 0, mm_rf E 143]) h m0 cv_MD_88 cm_MD_wordAt hl0 (q0 := _) rfl rfl (is_MO hw) hu0 hz0 rfl rfl (Nat.le_of_ble_eq_true rfl) d_MD_readSource_7 (fun r w1 f1 hp => k1 r w1 f1 hp)
theorem s_MD_readSource_10 {E : mm_E} {Γ : mm_G} {lev kc ks ca sa : Nat} {w : mm_W} {f : mm_F} (h : mm_ok E Γ b_MD_readSource 3 "PlannedTablesModel" lev kc ks) (hw : mm_sh w) {xk1 : Int32} {xk2 : Int32} (b0 : vp_in xk1 40) (k1 : ((mm_up (mm_up f 143 (xk1).toNatClampNeg xk2) 144 0 1) 143 0) = 1 → mm_go E Γ 3 40 [(0, mm_rf E 136)] [.int 0, mm_rf E 136] w (mm_up (mm_up f 143 (xk1).toNatClampNeg xk2) 144 0 1) ca sa) (k2 : ¬ ((mm_up (mm_up f 143 (xk1).toNatClampNeg xk2) 144 0 1) 143 0) = 1 → ¬ ((mm_up (mm_up f 143 (xk1).toNatClampNeg xk2) 144 0 1) 143 0) = 2 → mm_go E Γ 3 45 [(0, mm_rf E 136)] [.int 0, .int 0, mm_rf E 136] w (mm_up (mm_up f 143 (xk1).toNatClampNeg xk2) 144 0 1) ca sa) (k3 : ¬ ((mm_up (mm_up f 143 (xk1).toNatClampNeg xk2) 144 0 1) 143 0) = 1 → ((mm_up (mm_up f 143 (xk1).toNatClampNeg xk2) 144 0 1) 143 0) = 2 → mm_go E Γ 3 40 [(0, mm_rf E 136)] [.int 0, mm_rf E 136] w (mm_up (mm_up f 143 (xk1).toNatClampNeg xk2) 144 0 1) ca sa) : mm_go E Γ 3 10 [(0, mm_rf E 136)] [.int xk2, .int xk1, mm_rf E 143] w f ca sa := by
  refine mm_iast h (is_Mops hw) b0 d_MD_readSource_10 ?_
  refine mm_aload_n h d_MD_readSource_11 0 rfl rfl ?_
  refine mm_getr h fl_MD_32 rfl (is_MO hw) (rf_MO_at hw) (is_Mat hw).1.1 d_MD_readSource_12 ?_
  refine mm_iconst (v := 0) h d_MD_readSource_15 (by decide) ?_
  refine mm_iconst (v := 1) h d_MD_readSource_16 (by decide) ?_
  refine mm_iast h (is_Mat hw) (by unfold vp_in; decide) d_MD_readSource_17 ?_
  refine mm_aload_n h d_MD_readSource_18 0 rfl rfl ?_
  refine mm_iconst (v := 0) h d_MD_readSource_19 (by decide) ?_
  refine mm_aload_n h d_MD_readSource_20 0 rfl rfl ?_
  refine mm_getr h fl_MD_29 rfl (is_MO hw) (rf_MO_ops hw) (is_Mops hw).1.1 d_MD_readSource_21 ?_
  refine mm_iconst (v := 0) h d_MD_readSource_24 (by decide) ?_
  refine mm_iald h (is_Mops hw) (by unfold vp_in; decide) d_MD_readSource_25 ?_
  refine mm_iconst (v := 1) h d_MD_readSource_26 (by decide) ?_
  refine mm_icmp_eq h d_MD_readSource_27 (tgt := 40) (by decide) (fun c1 => ?_) (fun c1 => ?_)
  · skip
    exact (k1 c1)
  · skip
    refine mm_aload_n h d_MD_readSource_30 0 rfl rfl ?_
    refine mm_getr h fl_MD_29 rfl (is_MO hw) (rf_MO_ops hw) (is_Mops hw).1.1 d_MD_readSource_31 ?_
    refine mm_iconst (v := 0) h d_MD_readSource_34 (by decide) ?_
    refine mm_iald h (is_Mops hw) (by unfold vp_in; decide) d_MD_readSource_35 ?_
    refine mm_iconst (v := 2) h d_MD_readSource_36 (by decide) ?_
    refine mm_icmp_ne h d_MD_readSource_37 (tgt := 44) (by decide) (fun c2 => ?_) (fun c2 => ?_)
    · skip
      refine mm_iconst (v := 0) h d_MD_readSource_44 (by decide) ?_
      exact (k2 c1 c2)
    · skip
      exact (k3 c1 c2)
theorem s_MD_readSource_40 {E : mm_E} {Γ : mm_G} {lev kc ks ca sa : Nat} {w : mm_W} {f : mm_F} (h : mm_ok E Γ b_MD_readSource 3 "PlannedTablesModel" lev kc ks) (hw : mm_sh w) {xk1 : Int32} (k0 : mm_go E Γ 3 45 [(0, mm_rf E 136)] [.int 1, .int xk1, mm_rf E 136] w f ca sa) : mm_go E Γ 3 40 [(0, mm_rf E 136)] [.int xk1, mm_rf E 136] w f ca sa := by
  refine mm_iconst (v := 1) h d_MD_readSource_40 (by decide) ?_
  refine mm_goto h d_MD_readSource_41 (tgt := 45) (by decide) ?_
  exact k0
theorem s_MD_readSource_45 {E : mm_E} {Γ : mm_G} {lev kc ks ca sa : Nat} {w : mm_W} {f : mm_F} (h : mm_ok E Γ b_MD_readSource 3 "PlannedTablesModel" lev kc ks) (hw : mm_sh w) {xk1 : Int32} {xk2 : Int32} {vl0 vc0 vs0 : Nat} {P0 : Option Value → mm_W → mm_F → Prop} (hl0 : vl0 < lev) (hu0 : ca + vc0 ≤ kc) (hz0 : sa + vs0 ≤ ks) (m0 : mm_C E y_MD_demand b_MD_demand 3 none vl0 vc0 vs0 [mm_rf E 136, .int xk1, .int xk2] w f P0) (k1 : ∀ (r : Option Value) (w1 : mm_W) (f1 : mm_F), P0 r w1 f1 → mm_go E Γ 3 48 [(0, mm_rf E 136)] (r.toList ++ []) w1 f1 (ca + vc0) (sa + vs0)) : mm_go E Γ 3 45 [(0, mm_rf E 136)] [.int xk2, .int xk1, mm_rf E 136] w f ca sa := by
  exact mm_callV (As := [.int xk1, .int xk2]) (rest := []) h m0 cv_MD_91 cm_MD_demand hl0 (q0 := _) rfl rfl (is_MO hw) hu0 hz0 rfl rfl (Nat.le_of_ble_eq_true rfl) d_MD_readSource_45 (fun r w1 f1 hp => k1 r w1 f1 hp)
theorem s_MD_readSource_48 {E : mm_E} {Γ : mm_G} {lev kc ks ca sa : Nat} {w : mm_W} {f : mm_F} (h : mm_ok E Γ b_MD_readSource 3 "PlannedTablesModel" lev kc ks) (hw : mm_sh w)  {vl0 vc0 vs0 : Nat} {P0 : Option Value → mm_W → mm_F → Prop} (hl0 : vl0 < lev) (hu0 : ca + vc0 ≤ kc) (hz0 : sa + vs0 ≤ ks) (m0 : mm_C E y_MD_wordAt b_MD_wordAt 2 (some .int) vl0 vc0 vs0 [mm_rf E 136, .int 1] w f P0) (k1 : ∀ (r : Option Value) (w1 : mm_W) (f1 : mm_F), P0 r w1 f1 → mm_go E Γ 3 53 [(0, mm_rf E 136)] (r.toList ++ []) w1 f1 (ca + vc0) (sa + vs0)) : mm_go E Γ 3 48 [(0, mm_rf E 136)] [] w f ca sa := by
  refine mm_aload_n h d_MD_readSource_48 0 rfl rfl ?_
  refine mm_iconst (v := 1) h d_MD_readSource_49 (by decide) ?_
  exact mm_callV (As := [.int 1]) (rest := []) h m0 cv_MD_88 cm_MD_wordAt hl0 (q0 := _) rfl rfl (is_MO hw) hu0 hz0 rfl rfl (Nat.le_of_ble_eq_true rfl) d_MD_readSource_50 (fun r w1 f1 hp => k1 r w1 f1 hp)
theorem s_MD_readSource_53 {E : mm_E} {Γ : mm_G} {lev kc ks ca sa : Nat} {w : mm_W} {f : mm_F} (h : mm_ok E Γ b_MD_readSource 3 "PlannedTablesModel" lev kc ks) (hw : mm_sh w) {xk0 : Int32} {vl0 vc0 vs0 : Nat} {P0 : Option Value → mm_W → mm_F → Prop} (hl0 : vl0 < lev) (hu0 : ca + vc0 ≤ kc) (hz0 : sa + vs0 ≤ ks) (m0 : mm_C E y_MD_isTable b_MD_isTable 2 (some .boolean) vl0 vc0 vs0 [mm_rf E 136, .int xk0] w f P0) (k1 : ∀ (r : Option Value) (w1 : mm_W) (f1 : mm_F), P0 r w1 f1 → mm_go E Γ 3 61 [(0, mm_rf E 136), (1, .int xk0)] (r.toList ++ [.int 1, mm_rf E 136]) w1 f1 (ca + vc0) (sa + vs0)) : mm_go E Γ 3 53 [(0, mm_rf E 136)] [.int xk0] w f ca sa := by
  refine mm_istore_n (lv' := [(1, .int xk0), (0, mm_rf E 136)]) h d_MD_readSource_53 rfl (by decide) rfl ?_
  refine mm_aload_n h d_MD_readSource_54 1 rfl rfl ?_
  refine mm_iconst (v := 1) h d_MD_readSource_55 (by decide) ?_
  refine mm_aload_n h d_MD_readSource_56 1 rfl rfl ?_
  refine mm_iload_n h d_MD_readSource_57 0 rfl rfl ?_
  exact mm_callV (As := [.int xk0]) (rest := [.int 1, mm_rf E 136]) h m0 cv_MD_63 cm_MD_isTable hl0 (q0 := _) rfl rfl (is_MO hw) hu0 hz0 rfl rfl (Nat.le_of_ble_eq_true rfl) d_MD_readSource_58 (fun r w1 f1 hp => mm_sub [1, 0] rfl (k1 r w1 f1 hp))
theorem s_MD_readSource_61 {E : mm_E} {Γ : mm_G} {lev kc ks ca sa : Nat} {w : mm_W} {f : mm_F} (h : mm_ok E Γ b_MD_readSource 3 "PlannedTablesModel" lev kc ks) (hw : mm_sh w) {x1 : Int32} {xk1 : Int32} {xk2 : Int32} {vl0 vc0 vs0 : Nat} {P0 : Option Value → mm_W → mm_F → Prop} (hl0 : vl0 < lev) (hu0 : ca + vc0 ≤ kc) (hz0 : sa + vs0 ≤ ks) (m0 : mm_C E y_MD_demand b_MD_demand 3 none vl0 vc0 vs0 [mm_rf E 136, .int xk1, .int xk2] w f P0) (k1 : ∀ (r : Option Value) (w1 : mm_W) (f1 : mm_F), P0 r w1 f1 → mm_go E Γ 3 64 [(0, mm_rf E 136), (1, .int x1)] (r.toList ++ []) w1 f1 (ca + vc0) (sa + vs0)) : mm_go E Γ 3 61 [(0, mm_rf E 136), (1, .int x1)] [.int xk2, .int xk1, mm_rf E 136] w f ca sa := by
  exact mm_callV (As := [.int xk1, .int xk2]) (rest := []) h m0 cv_MD_91 cm_MD_demand hl0 (q0 := _) rfl rfl (is_MO hw) hu0 hz0 rfl rfl (Nat.le_of_ble_eq_true rfl) d_MD_readSource_61 (fun r w1 f1 hp => k1 r w1 f1 hp)
theorem s_MD_readSource_64 {E : mm_E} {Γ : mm_G} {lev kc ks ca sa : Nat} {w : mm_W} {f : mm_F} {Post : Option Value → mm_W → mm_F → Prop} (h : mm_ok E Γ b_MD_readSource 3 "PlannedTablesModel" lev kc ks) (he : mm_end E Γ none kc ks Post y_MD_readSource.name) (hca : ca ≤ kc) (hsa : sa ≤ ks) (hw : mm_sh w) {x1 : Int32} (b0 : (f 136 11) < 0 → vp_in x1 4) (k1 : (f 136 11) < 0 → ¬ ((mm_up f 136 15 (f 137 (x1).toNatClampNeg)) 143 0) = 2 → mm_go E Γ 3 144 [(0, mm_rf E 136), (1, .int x1)] [] w (mm_up f 136 15 (f 137 (x1).toNatClampNeg)) ca sa) {vl0 vc0 vs0 : Nat} {P0 : Option Value → mm_W → mm_F → Prop} (hl0 : vl0 < lev) (hu0 : ca + vc0 ≤ kc) (hz0 : sa + vs0 ≤ ks) (m2 : (f 136 11) < 0 → ((mm_up f 136 15 (f 137 (x1).toNatClampNeg)) 143 0) = 2 → mm_C E y_MD_wordAt b_MD_wordAt 2 (some .int) vl0 vc0 vs0 [mm_rf E 136, .int 2] w (mm_up f 136 15 (f 137 (x1).toNatClampNeg)) P0) (k3 : (f 136 11) < 0 → ((mm_up f 136 15 (f 137 (x1).toNatClampNeg)) 143 0) = 2 → ∀ (r : Option Value) (w1 : mm_W) (f1 : mm_F), P0 r w1 f1 → mm_go E Γ 3 97 [(0, mm_rf E 136), (1, .int x1)] (r.toList ++ []) w1 f1 (ca + vc0) (sa + vs0)) (k4 : ¬ (f 136 11) < 0 → Post none w f) : mm_go E Γ 3 64 [(0, mm_rf E 136), (1, .int x1)] [] w f ca sa := by
  refine mm_aload_n h d_MD_readSource_64 0 rfl rfl ?_
  refine mm_geti h fl_MD_85 rfl (is_MO hw) d_MD_readSource_65 ?_
  refine mm_if_lt h d_MD_readSource_68 (tgt := 72) (by decide) (fun c1 => ?_) (fun c1 => ?_)
  · skip
    refine mm_aload_n h d_MD_readSource_72 0 rfl rfl ?_
    refine mm_aload_n h d_MD_readSource_73 0 rfl rfl ?_
    refine mm_getr h fl_MD_7 rfl (is_MO hw) (rf_MO_columns hw) (is_Mcolumns hw).1.1 d_MD_readSource_74 ?_
    refine mm_iload_n h d_MD_readSource_77 1 rfl rfl ?_
    refine mm_iald h (is_Mcolumns hw) (b0 c1) d_MD_readSource_78 ?_
    refine mm_puti h fl_MD_95 (Or.inl rfl) rfl rfl rfl (is_MO hw) d_MD_readSource_79 ?_
    refine mm_aload_n h d_MD_readSource_82 0 rfl rfl ?_
    refine mm_getr h fl_MD_29 rfl (is_MO hw) (rf_MO_ops hw) (is_Mops hw).1.1 d_MD_readSource_83 ?_
    refine mm_iconst (v := 0) h d_MD_readSource_86 (by decide) ?_
    refine mm_iald h (is_Mops hw) (by unfold vp_in; decide) d_MD_readSource_87 ?_
    refine mm_iconst (v := 2) h d_MD_readSource_88 (by decide) ?_
    refine mm_icmp_ne h d_MD_readSource_89 (tgt := 144) (by decide) (fun c2 => ?_) (fun c2 => ?_)
    · skip
      exact (k1 c1 c2)
    · skip
      refine mm_aload_n h d_MD_readSource_92 0 rfl rfl ?_
      refine mm_iconst (v := 2) h d_MD_readSource_93 (by decide) ?_
      exact mm_callV (As := [.int 2]) (rest := []) h (m2 c1 c2) cv_MD_88 cm_MD_wordAt hl0 (q0 := _) rfl rfl (is_MO hw) hu0 hz0 rfl rfl (Nat.le_of_ble_eq_true rfl) d_MD_readSource_94 (fun r w1 f1 hp => (k3 c1 c2) r w1 f1 hp)
  · skip
    exact mm_vret h he d_MD_readSource_71 hca hsa (k4 c1)
theorem s_MD_readSource_97 {E : mm_E} {Γ : mm_G} {lev kc ks ca sa : Nat} {w : mm_W} {f : mm_F} (h : mm_ok E Γ b_MD_readSource 3 "PlannedTablesModel" lev kc ks) (hw : mm_sh w) {x1 : Int32} {xk0 : Int32} {vl0 vc0 vs0 : Nat} {P0 : Option Value → mm_W → mm_F → Prop} (hl0 : vl0 < lev) (hu0 : ca + vc0 ≤ kc) (hz0 : sa + vs0 ≤ ks) (m0 : mm_C E y_MD_isColumn b_MD_isColumn 3 (some .boolean) vl0 vc0 vs0 [mm_rf E 136, .int x1, .int xk0] w f P0) (k1 : ∀ (r : Option Value) (w1 : mm_W) (f1 : mm_F), P0 r w1 f1 → mm_go E Γ 3 106 [(0, mm_rf E 136), (1, .int x1), (2, .int xk0)] (r.toList ++ [.int 2, mm_rf E 136]) w1 f1 (ca + vc0) (sa + vs0)) : mm_go E Γ 3 97 [(0, mm_rf E 136), (1, .int x1)] [.int xk0] w f ca sa := by
  refine mm_istore_n (lv' := [(2, .int xk0), (0, mm_rf E 136), (1, .int x1)]) h d_MD_readSource_97 rfl (by decide) rfl ?_
  refine mm_aload_n h d_MD_readSource_98 1 rfl rfl ?_
  refine mm_iconst (v := 2) h d_MD_readSource_99 (by decide) ?_
  refine mm_aload_n h d_MD_readSource_100 1 rfl rfl ?_
  refine mm_iload_n h d_MD_readSource_101 2 rfl rfl ?_
  refine mm_iload_n h d_MD_readSource_102 0 rfl rfl ?_
  exact mm_callV (As := [.int x1, .int xk0]) (rest := [.int 2, mm_rf E 136]) h m0 cv_MD_67 cm_MD_isColumn hl0 (q0 := _) rfl rfl (is_MO hw) hu0 hz0 rfl rfl (Nat.le_of_ble_eq_true rfl) d_MD_readSource_103 (fun r w1 f1 hp => mm_sub [1, 2, 0] rfl (k1 r w1 f1 hp))
theorem s_MD_readSource_106 {E : mm_E} {Γ : mm_G} {lev kc ks ca sa : Nat} {w : mm_W} {f : mm_F} (h : mm_ok E Γ b_MD_readSource 3 "PlannedTablesModel" lev kc ks) (hw : mm_sh w) {x1 : Int32} {x2 : Int32} {xk1 : Int32} {xk2 : Int32} (k0 : xk2 = 0 → mm_go E Γ 3 128 [(0, mm_rf E 136), (1, .int x1), (2, .int x2)] [.int xk1, mm_rf E 136] w f ca sa) (b1 : ¬ xk2 = 0 → vp_in ((4 * x1) + (x2 &&& 3)) 16) (k2 : ¬ xk2 = 0 → (f 138 (((4 * x1) + (x2 &&& 3))).toNatClampNeg) = 0 → mm_go E Γ 3 128 [(0, mm_rf E 136), (1, .int x1), (2, .int x2)] [.int xk1, mm_rf E 136] w f ca sa) (k3 : ¬ xk2 = 0 → ¬ (f 138 (((4 * x1) + (x2 &&& 3))).toNatClampNeg) = 0 → mm_go E Γ 3 129 [(0, mm_rf E 136), (1, .int x1), (2, .int x2)] [.int 1, .int xk1, mm_rf E 136] w f ca sa) : mm_go E Γ 3 106 [(0, mm_rf E 136), (1, .int x1), (2, .int x2)] [.int xk2, .int xk1, mm_rf E 136] w f ca sa := by
  refine mm_if_eq h d_MD_readSource_106 (tgt := 128) (by decide) (fun c1 => ?_) (fun c1 => ?_)
  · skip
    exact (k0 c1)
  · skip
    refine mm_aload_n h d_MD_readSource_109 0 rfl rfl ?_
    refine mm_getr h fl_MD_13 rfl (is_MO hw) (rf_MO_indexed hw) (is_Mindexed hw).1.1 d_MD_readSource_110 ?_
    refine mm_iconst (v := 4) h d_MD_readSource_113 (by decide) ?_
    refine mm_iload_n h d_MD_readSource_114 1 rfl rfl ?_
    refine mm_imul h d_MD_readSource_115 ?_
    refine mm_iload_n h d_MD_readSource_116 2 rfl rfl ?_
    refine mm_iconst (v := 3) h d_MD_readSource_117 (by decide) ?_
    refine mm_iand h d_MD_readSource_118 ?_
    refine mm_iadd h d_MD_readSource_119 ?_
    refine mm_zald h (is_Mindexed hw) (b1 c1) d_MD_readSource_120 ?_
    refine mm_if_eq h d_MD_readSource_121 (tgt := 128) (by decide) (fun c2 => ?_) (fun c2 => ?_)
    · skip
      exact (k2 c1 c2)
    · skip
      refine mm_iconst (v := 1) h d_MD_readSource_124 (by decide) ?_
      refine mm_goto h d_MD_readSource_125 (tgt := 129) (by decide) ?_
      exact (k3 c1 c2)
theorem s_MD_readSource_128 {E : mm_E} {Γ : mm_G} {lev kc ks ca sa : Nat} {w : mm_W} {f : mm_F} (h : mm_ok E Γ b_MD_readSource 3 "PlannedTablesModel" lev kc ks) (hw : mm_sh w) {x1 : Int32} {x2 : Int32} {xk1 : Int32} (k0 : mm_go E Γ 3 129 [(0, mm_rf E 136), (1, .int x1), (2, .int x2)] [.int 0, .int xk1, mm_rf E 136] w f ca sa) : mm_go E Γ 3 128 [(0, mm_rf E 136), (1, .int x1), (2, .int x2)] [.int xk1, mm_rf E 136] w f ca sa := by
  refine mm_iconst (v := 0) h d_MD_readSource_128 (by decide) ?_
  exact k0
theorem s_MD_readSource_129 {E : mm_E} {Γ : mm_G} {lev kc ks ca sa : Nat} {w : mm_W} {f : mm_F} (h : mm_ok E Γ b_MD_readSource 3 "PlannedTablesModel" lev kc ks) (hw : mm_sh w) {x1 : Int32} {x2 : Int32} {xk1 : Int32} {xk2 : Int32} {vl0 vc0 vs0 : Nat} {P0 : Option Value → mm_W → mm_F → Prop} (hl0 : vl0 < lev) (hu0 : ca + vc0 ≤ kc) (hz0 : sa + vs0 ≤ ks) (m0 : mm_C E y_MD_demand b_MD_demand 3 none vl0 vc0 vs0 [mm_rf E 136, .int xk1, .int xk2] w f P0) (k1 : ∀ (r : Option Value) (w1 : mm_W) (f1 : mm_F), P0 r w1 f1 → mm_go E Γ 3 132 [(0, mm_rf E 136), (1, .int x1), (2, .int x2)] (r.toList ++ []) w1 f1 (ca + vc0) (sa + vs0)) : mm_go E Γ 3 129 [(0, mm_rf E 136), (1, .int x1), (2, .int x2)] [.int xk2, .int xk1, mm_rf E 136] w f ca sa := by
  exact mm_callV (As := [.int xk1, .int xk2]) (rest := []) h m0 cv_MD_91 cm_MD_demand hl0 (q0 := _) rfl rfl (is_MO hw) hu0 hz0 rfl rfl (Nat.le_of_ble_eq_true rfl) d_MD_readSource_129 (fun r w1 f1 hp => k1 r w1 f1 hp)
theorem s_MD_readSource_132 {E : mm_E} {Γ : mm_G} {lev kc ks ca sa : Nat} {w : mm_W} {f : mm_F} (h : mm_ok E Γ b_MD_readSource 3 "PlannedTablesModel" lev kc ks) (hw : mm_sh w) {x1 : Int32} {x2 : Int32} {vl0 vc0 vs0 : Nat} {P0 : Option Value → mm_W → mm_F → Prop} (hl0 : vl0 < lev) (hu0 : ca + vc0 ≤ kc) (hz0 : sa + vs0 ≤ ks) (m0 : mm_C E y_MD_demand b_MD_demand 3 none vl0 vc0 vs0 [mm_rf E 136, .int 3, .int 1] w f P0) (k1 : ∀ (r : Option Value) (w1 : mm_W) (f1 : mm_F), P0 r w1 f1 → mm_go E Γ 3 138 [(0, mm_rf E 136), (1, .int x1), (2, .int x2)] (r.toList ++ []) w1 f1 (ca + vc0) (sa + vs0)) : mm_go E Γ 3 132 [(0, mm_rf E 136), (1, .int x1), (2, .int x2)] [] w f ca sa := by
  refine mm_aload_n h d_MD_readSource_132 0 rfl rfl ?_
  refine mm_iconst (v := 3) h d_MD_readSource_133 (by decide) ?_
  refine mm_iconst (v := 1) h d_MD_readSource_134 (by decide) ?_
  exact mm_callV (As := [.int 3, .int 1]) (rest := []) h m0 cv_MD_91 cm_MD_demand hl0 (q0 := _) rfl rfl (is_MO hw) hu0 hz0 rfl rfl (Nat.le_of_ble_eq_true rfl) d_MD_readSource_135 (fun r w1 f1 hp => k1 r w1 f1 hp)
theorem s_MD_readSource_138 {E : mm_E} {Γ : mm_G} {lev kc ks ca sa : Nat} {w : mm_W} {f : mm_F} (h : mm_ok E Γ b_MD_readSource 3 "PlannedTablesModel" lev kc ks) (hw : mm_sh w) {x1 : Int32} {x2 : Int32} {vl0 vc0 vs0 : Nat} {P0 : Option Value → mm_W → mm_F → Prop} (hl0 : vl0 < lev) (hu0 : ca + vc0 ≤ kc) (hz0 : sa + vs0 ≤ ks) (m0 : mm_C E y_MD_demand b_MD_demand 3 none vl0 vc0 vs0 [mm_rf E 136, .int 4, .int 1] w f P0) (k1 : ∀ (r : Option Value) (w1 : mm_W) (f1 : mm_F), P0 r w1 f1 → mm_go E Γ 3 144 [(0, mm_rf E 136), (1, .int x1)] (r.toList ++ []) w1 f1 (ca + vc0) (sa + vs0)) : mm_go E Γ 3 138 [(0, mm_rf E 136), (1, .int x1), (2, .int x2)] [] w f ca sa := by
  refine mm_aload_n h d_MD_readSource_138 0 rfl rfl ?_
  refine mm_iconst (v := 4) h d_MD_readSource_139 (by decide) ?_
  refine mm_iconst (v := 1) h d_MD_readSource_140 (by decide) ?_
  exact mm_callV (As := [.int 4, .int 1]) (rest := []) h m0 cv_MD_91 cm_MD_demand hl0 (q0 := _) rfl rfl (is_MO hw) hu0 hz0 rfl rfl (Nat.le_of_ble_eq_true rfl) d_MD_readSource_141 (fun r w1 f1 hp => mm_sub [0, 1] rfl (k1 r w1 f1 hp))
theorem s_MD_readSource_144 {E : mm_E} {Γ : mm_G} {lev kc ks ca sa : Nat} {w : mm_W} {f : mm_F} {Post : Option Value → mm_W → mm_F → Prop} (h : mm_ok E Γ b_MD_readSource 3 "PlannedTablesModel" lev kc ks) (he : mm_end E Γ none kc ks Post y_MD_readSource.name) (hca : ca ≤ kc) (hsa : sa ≤ ks) (hw : mm_sh w) {x1 : Int32} (k0 : Post none w f) : mm_go E Γ 3 144 [(0, mm_rf E 136), (1, .int x1)] [] w f ca sa := by
  exact mm_vret h he d_MD_readSource_144 hca hsa k0
theorem d_MD_isCell_0 : decode b_MD_isCell 0 = .ok (.iload_n 1, 1) := by decide +kernel
theorem d_MD_isCell_1 : decode b_MD_isCell 1 = .ok (.ifCond .lt (15), 3) := by decide +kernel
theorem d_MD_isCell_4 : decode b_MD_isCell 4 = .ok (.iload_n 1, 1) := by decide +kernel
theorem d_MD_isCell_5 : decode b_MD_isCell 5 = .ok (.aload_n 0, 1) := by decide +kernel
theorem d_MD_isCell_6 : decode b_MD_isCell 6 = .ok (.getfield 95, 3) := by decide +kernel
theorem d_MD_isCell_9 : decode b_MD_isCell 9 = .ok (.if_icmp .ge (7), 3) := by decide +kernel
theorem d_MD_isCell_12 : decode b_MD_isCell 12 = .ok (.iconst (1), 1) := by decide +kernel
theorem d_MD_isCell_13 : decode b_MD_isCell 13 = .ok (.goto (4), 3) := by decide +kernel
theorem d_MD_isCell_16 : decode b_MD_isCell 16 = .ok (.iconst (0), 1) := by decide +kernel
theorem d_MD_isCell_17 : decode b_MD_isCell 17 = .ok (.ireturn, 1) := by decide +kernel
theorem s_MD_isCell_0 {E : mm_E} {Γ : mm_G} {lev kc ks ca sa : Nat} {w : mm_W} {f : mm_F} (h : mm_ok E Γ b_MD_isCell 2 "PlannedTablesModel" lev kc ks) (hw : mm_sh w) {x1 : Int32} (k0 : x1 < 0 → mm_go E Γ 2 16 [(0, mm_rf E 136), (1, .int x1)] [] w f ca sa) (k1 : ¬ x1 < 0 → (f 136 15) ≤ x1 → mm_go E Γ 2 16 [(0, mm_rf E 136), (1, .int x1)] [] w f ca sa) (k2 : ¬ x1 < 0 → ¬ (f 136 15) ≤ x1 → mm_go E Γ 2 17 [(0, mm_rf E 136), (1, .int x1)] [.int 1] w f ca sa) : mm_go E Γ 2 0 [(0, mm_rf E 136), (1, .int x1)] [] w f ca sa := by
  refine mm_iload_n h d_MD_isCell_0 1 rfl rfl ?_
  refine mm_if_lt h d_MD_isCell_1 (tgt := 16) (by decide) (fun c1 => ?_) (fun c1 => ?_)
  · skip
    exact (k0 c1)
  · skip
    refine mm_iload_n h d_MD_isCell_4 1 rfl rfl ?_
    refine mm_aload_n h d_MD_isCell_5 0 rfl rfl ?_
    refine mm_geti h fl_MD_95 rfl (is_MO hw) d_MD_isCell_6 ?_
    refine mm_icmp_ge h d_MD_isCell_9 (tgt := 16) (by decide) (fun c2 => ?_) (fun c2 => ?_)
    · skip
      exact (k1 c1 c2)
    · skip
      refine mm_iconst (v := 1) h d_MD_isCell_12 (by decide) ?_
      refine mm_goto h d_MD_isCell_13 (tgt := 17) (by decide) ?_
      exact (k2 c1 c2)
theorem s_MD_isCell_16 {E : mm_E} {Γ : mm_G} {lev kc ks ca sa : Nat} {w : mm_W} {f : mm_F} (h : mm_ok E Γ b_MD_isCell 2 "PlannedTablesModel" lev kc ks) (hw : mm_sh w) {x1 : Int32} (k0 : mm_go E Γ 2 17 [(0, mm_rf E 136), (1, .int x1)] [.int 0] w f ca sa) : mm_go E Γ 2 16 [(0, mm_rf E 136), (1, .int x1)] [] w f ca sa := by
  refine mm_iconst (v := 0) h d_MD_isCell_16 (by decide) ?_
  exact k0
theorem s_MD_isCell_17 {E : mm_E} {Γ : mm_G} {lev kc ks ca sa : Nat} {w : mm_W} {f : mm_F} {Post : Option Value → mm_W → mm_F → Prop} (h : mm_ok E Γ b_MD_isCell 2 "PlannedTablesModel" lev kc ks) (he : mm_end E Γ (some .boolean) kc ks Post y_MD_isCell.name) (hca : ca ≤ kc) (hsa : sa ≤ ks) (hw : mm_sh w) {x1 : Int32} {xk0 : Int32} (k0 : Post (some (.int xk0)) w f) (n1 : narrow .boolean (.int xk0) = .int xk0) : mm_go E Γ 2 17 [(0, mm_rf E 136), (1, .int x1)] [.int xk0] w f ca sa := by
  exact mm_iret h he n1 d_MD_isCell_17 hca hsa k0
theorem d_MD_readCells_0 : decode b_MD_readCells 0 = .ok (.aload_n 0, 1) := by decide +kernel
theorem d_MD_readCells_1 : decode b_MD_readCells 1 = .ok (.iload_n 1, 1) := by decide +kernel
theorem d_MD_readCells_2 : decode b_MD_readCells 2 = .ok (.invokevirtual 88, 3) := by decide +kernel
theorem d_MD_readCells_5 : decode b_MD_readCells 5 = .ok (.istore_n 2, 1) := by decide +kernel
theorem d_MD_readCells_6 : decode b_MD_readCells 6 = .ok (.aload_n 0, 1) := by decide +kernel
theorem d_MD_readCells_7 : decode b_MD_readCells 7 = .ok (.iload_n 1, 1) := by decide +kernel
theorem d_MD_readCells_8 : decode b_MD_readCells 8 = .ok (.iload_n 2, 1) := by decide +kernel
theorem d_MD_readCells_9 : decode b_MD_readCells 9 = .ok (.iconst (1), 1) := by decide +kernel
theorem d_MD_readCells_10 : decode b_MD_readCells 10 = .ok (.if_icmp .lt (13), 3) := by decide +kernel
theorem d_MD_readCells_13 : decode b_MD_readCells 13 = .ok (.iload_n 2, 1) := by decide +kernel
theorem d_MD_readCells_14 : decode b_MD_readCells 14 = .ok (.bipush (8), 2) := by decide +kernel
theorem d_MD_readCells_16 : decode b_MD_readCells 16 = .ok (.if_icmp .gt (7), 3) := by decide +kernel
theorem d_MD_readCells_19 : decode b_MD_readCells 19 = .ok (.iconst (1), 1) := by decide +kernel
theorem d_MD_readCells_20 : decode b_MD_readCells 20 = .ok (.goto (4), 3) := by decide +kernel
theorem d_MD_readCells_23 : decode b_MD_readCells 23 = .ok (.iconst (0), 1) := by decide +kernel
theorem d_MD_readCells_24 : decode b_MD_readCells 24 = .ok (.invokevirtual 91, 3) := by decide +kernel
theorem d_MD_readCells_27 : decode b_MD_readCells 27 = .ok (.aload_n 0, 1) := by decide +kernel
theorem d_MD_readCells_28 : decode b_MD_readCells 28 = .ok (.getfield 85, 3) := by decide +kernel
theorem d_MD_readCells_31 : decode b_MD_readCells 31 = .ok (.ifCond .lt (5), 3) := by decide +kernel
theorem d_MD_readCells_34 : decode b_MD_readCells 34 = .ok (.iload_n 1, 1) := by decide +kernel
theorem d_MD_readCells_35 : decode b_MD_readCells 35 = .ok (.ireturn, 1) := by decide +kernel
theorem d_MD_readCells_36 : decode b_MD_readCells 36 = .ok (.iconst (1), 1) := by decide +kernel
theorem d_MD_readCells_37 : decode b_MD_readCells 37 = .ok (.istore_n 3, 1) := by decide +kernel
theorem d_MD_readCells_38 : decode b_MD_readCells 38 = .ok (.iload_n 3, 1) := by decide +kernel
theorem d_MD_readCells_39 : decode b_MD_readCells 39 = .ok (.iload_n 2, 1) := by decide +kernel
theorem d_MD_readCells_40 : decode b_MD_readCells 40 = .ok (.if_icmp .gt (27), 3) := by decide +kernel
theorem d_MD_readCells_43 : decode b_MD_readCells 43 = .ok (.aload_n 0, 1) := by decide +kernel
theorem d_MD_readCells_44 : decode b_MD_readCells 44 = .ok (.iload_n 1, 1) := by decide +kernel
theorem d_MD_readCells_45 : decode b_MD_readCells 45 = .ok (.iload_n 3, 1) := by decide +kernel
theorem d_MD_readCells_46 : decode b_MD_readCells 46 = .ok (.iadd, 1) := by decide +kernel
theorem d_MD_readCells_47 : decode b_MD_readCells 47 = .ok (.aload_n 0, 1) := by decide +kernel
theorem d_MD_readCells_48 : decode b_MD_readCells 48 = .ok (.aload_n 0, 1) := by decide +kernel
theorem d_MD_readCells_49 : decode b_MD_readCells 49 = .ok (.iload_n 1, 1) := by decide +kernel
theorem d_MD_readCells_50 : decode b_MD_readCells 50 = .ok (.iload_n 3, 1) := by decide +kernel
theorem d_MD_readCells_51 : decode b_MD_readCells 51 = .ok (.iadd, 1) := by decide +kernel
theorem d_MD_readCells_52 : decode b_MD_readCells 52 = .ok (.invokevirtual 88, 3) := by decide +kernel
theorem d_MD_readCells_55 : decode b_MD_readCells 55 = .ok (.invokevirtual 98, 3) := by decide +kernel
theorem d_MD_readCells_58 : decode b_MD_readCells 58 = .ok (.invokevirtual 91, 3) := by decide +kernel
theorem d_MD_readCells_61 : decode b_MD_readCells 61 = .ok (.iinc 3 (1), 3) := by decide +kernel
theorem d_MD_readCells_64 : decode b_MD_readCells 64 = .ok (.goto (-26), 3) := by decide +kernel
theorem d_MD_readCells_67 : decode b_MD_readCells 67 = .ok (.aload_n 0, 1) := by decide +kernel
theorem d_MD_readCells_68 : decode b_MD_readCells 68 = .ok (.iload_n 2, 1) := by decide +kernel
theorem d_MD_readCells_69 : decode b_MD_readCells 69 = .ok (.putfield 95, 3) := by decide +kernel
theorem d_MD_readCells_72 : decode b_MD_readCells 72 = .ok (.iload_n 1, 1) := by decide +kernel
theorem d_MD_readCells_73 : decode b_MD_readCells 73 = .ok (.iload_n 2, 1) := by decide +kernel
theorem d_MD_readCells_74 : decode b_MD_readCells 74 = .ok (.iadd, 1) := by decide +kernel
theorem d_MD_readCells_75 : decode b_MD_readCells 75 = .ok (.iconst (1), 1) := by decide +kernel
theorem d_MD_readCells_76 : decode b_MD_readCells 76 = .ok (.iadd, 1) := by decide +kernel
theorem d_MD_readCells_77 : decode b_MD_readCells 77 = .ok (.ireturn, 1) := by decide +kernel
theorem s_MD_readCells_0 {E : mm_E} {Γ : mm_G} {lev kc ks ca sa : Nat} {w : mm_W} {f : mm_F} (h : mm_ok E Γ b_MD_readCells 4 "PlannedTablesModel" lev kc ks) (hw : mm_sh w) {x1 : Int32} {vl0 vc0 vs0 : Nat} {P0 : Option Value → mm_W → mm_F → Prop} (hl0 : vl0 < lev) (hu0 : ca + vc0 ≤ kc) (hz0 : sa + vs0 ≤ ks) (m0 : mm_C E y_MD_wordAt b_MD_wordAt 2 (some .int) vl0 vc0 vs0 [mm_rf E 136, .int x1] w f P0) (k1 : ∀ (r : Option Value) (w1 : mm_W) (f1 : mm_F), P0 r w1 f1 → mm_go E Γ 4 5 [(0, mm_rf E 136), (1, .int x1)] (r.toList ++ []) w1 f1 (ca + vc0) (sa + vs0)) : mm_go E Γ 4 0 [(0, mm_rf E 136), (1, .int x1)] [] w f ca sa := by
  refine mm_aload_n h d_MD_readCells_0 0 rfl rfl ?_
  refine mm_iload_n h d_MD_readCells_1 1 rfl rfl ?_
  exact mm_callV (As := [.int x1]) (rest := []) h m0 cv_MD_88 cm_MD_wordAt hl0 (q0 := _) rfl rfl (is_MO hw) hu0 hz0 rfl rfl (Nat.le_of_ble_eq_true rfl) d_MD_readCells_2 (fun r w1 f1 hp => k1 r w1 f1 hp)
theorem s_MD_readCells_5 {E : mm_E} {Γ : mm_G} {lev kc ks ca sa : Nat} {w : mm_W} {f : mm_F} (h : mm_ok E Γ b_MD_readCells 4 "PlannedTablesModel" lev kc ks) (hw : mm_sh w) {x1 : Int32} {xk0 : Int32} (k0 : xk0 < 1 → mm_go E Γ 4 23 [(0, mm_rf E 136), (1, .int x1), (2, .int xk0)] [.int x1, mm_rf E 136] w f ca sa) (k1 : ¬ xk0 < 1 → 8 < xk0 → mm_go E Γ 4 23 [(0, mm_rf E 136), (1, .int x1), (2, .int xk0)] [.int x1, mm_rf E 136] w f ca sa) (k2 : ¬ xk0 < 1 → ¬ 8 < xk0 → mm_go E Γ 4 24 [(0, mm_rf E 136), (1, .int x1), (2, .int xk0)] [.int 1, .int x1, mm_rf E 136] w f ca sa) : mm_go E Γ 4 5 [(0, mm_rf E 136), (1, .int x1)] [.int xk0] w f ca sa := by
  refine mm_istore_n (lv' := [(2, .int xk0), (0, mm_rf E 136), (1, .int x1)]) h d_MD_readCells_5 rfl (by decide) rfl ?_
  refine mm_aload_n h d_MD_readCells_6 1 rfl rfl ?_
  refine mm_iload_n h d_MD_readCells_7 2 rfl rfl ?_
  refine mm_iload_n h d_MD_readCells_8 0 rfl rfl ?_
  refine mm_iconst (v := 1) h d_MD_readCells_9 (by decide) ?_
  refine mm_icmp_lt h d_MD_readCells_10 (tgt := 23) (by decide) (fun c1 => ?_) (fun c1 => ?_)
  · skip
    refine mm_sub [1, 2, 0] rfl ?_
    exact (k0 c1)
  · skip
    refine mm_iload_n h d_MD_readCells_13 0 rfl rfl ?_
    refine mm_bipush (v := 8) h d_MD_readCells_14 (by decide) ?_
    refine mm_icmp_gt h d_MD_readCells_16 (tgt := 23) (by decide) (fun c2 => ?_) (fun c2 => ?_)
    · skip
      refine mm_sub [1, 2, 0] rfl ?_
      exact (k1 c1 c2)
    · skip
      refine mm_iconst (v := 1) h d_MD_readCells_19 (by decide) ?_
      refine mm_goto h d_MD_readCells_20 (tgt := 24) (by decide) ?_
      refine mm_sub [1, 2, 0] rfl ?_
      exact (k2 c1 c2)
theorem s_MD_readCells_23 {E : mm_E} {Γ : mm_G} {lev kc ks ca sa : Nat} {w : mm_W} {f : mm_F} (h : mm_ok E Γ b_MD_readCells 4 "PlannedTablesModel" lev kc ks) (hw : mm_sh w) {x1 : Int32} {x2 : Int32} {xk1 : Int32} (k0 : mm_go E Γ 4 24 [(0, mm_rf E 136), (1, .int x1), (2, .int x2)] [.int 0, .int xk1, mm_rf E 136] w f ca sa) : mm_go E Γ 4 23 [(0, mm_rf E 136), (1, .int x1), (2, .int x2)] [.int xk1, mm_rf E 136] w f ca sa := by
  refine mm_iconst (v := 0) h d_MD_readCells_23 (by decide) ?_
  exact k0
theorem s_MD_readCells_24 {E : mm_E} {Γ : mm_G} {lev kc ks ca sa : Nat} {w : mm_W} {f : mm_F} (h : mm_ok E Γ b_MD_readCells 4 "PlannedTablesModel" lev kc ks) (hw : mm_sh w) {x1 : Int32} {x2 : Int32} {xk1 : Int32} {xk2 : Int32} {vl0 vc0 vs0 : Nat} {P0 : Option Value → mm_W → mm_F → Prop} (hl0 : vl0 < lev) (hu0 : ca + vc0 ≤ kc) (hz0 : sa + vs0 ≤ ks) (m0 : mm_C E y_MD_demand b_MD_demand 3 none vl0 vc0 vs0 [mm_rf E 136, .int xk1, .int xk2] w f P0) (k1 : ∀ (r : Option Value) (w1 : mm_W) (f1 : mm_F), P0 r w1 f1 → mm_go E Γ 4 27 [(0, mm_rf E 136), (1, .int x1), (2, .int x2)] (r.toList ++ []) w1 f1 (ca + vc0) (sa + vs0)) : mm_go E Γ 4 24 [(0, mm_rf E 136), (1, .int x1), (2, .int x2)] [.int xk2, .int xk1, mm_rf E 136] w f ca sa := by
  exact mm_callV (As := [.int xk1, .int xk2]) (rest := []) h m0 cv_MD_91 cm_MD_demand hl0 (q0 := _) rfl rfl (is_MO hw) hu0 hz0 rfl rfl (Nat.le_of_ble_eq_true rfl) d_MD_readCells_24 (fun r w1 f1 hp => k1 r w1 f1 hp)
theorem s_MD_readCells_27 {E : mm_E} {Γ : mm_G} {lev kc ks ca sa : Nat} {w : mm_W} {f : mm_F} {Post : Option Value → mm_W → mm_F → Prop} (h : mm_ok E Γ b_MD_readCells 4 "PlannedTablesModel" lev kc ks) (he : mm_end E Γ (some .int) kc ks Post y_MD_readCells.name) (hca : ca ≤ kc) (hsa : sa ≤ ks) (hw : mm_sh w) {x1 : Int32} {x2 : Int32} (k0 : (f 136 11) < 0 → mm_go E Γ 4 38 [(0, mm_rf E 136), (1, .int x1), (2, .int x2), (3, .int 1)] [] w f ca sa) (k1 : ¬ (f 136 11) < 0 → Post (some (.int x1)) w f) : mm_go E Γ 4 27 [(0, mm_rf E 136), (1, .int x1), (2, .int x2)] [] w f ca sa := by
  refine mm_aload_n h d_MD_readCells_27 0 rfl rfl ?_
  refine mm_geti h fl_MD_85 rfl (is_MO hw) d_MD_readCells_28 ?_
  refine mm_if_lt h d_MD_readCells_31 (tgt := 36) (by decide) (fun c1 => ?_) (fun c1 => ?_)
  · skip
    refine mm_iconst (v := 1) h d_MD_readCells_36 (by decide) ?_
    refine mm_istore_n (lv' := [(3, .int 1), (0, mm_rf E 136), (1, .int x1), (2, .int x2)]) h d_MD_readCells_37 rfl (by decide) rfl ?_
    refine mm_sub [1, 2, 3, 0] rfl ?_
    exact (k0 c1)
  · skip
    refine mm_iload_n h d_MD_readCells_34 1 rfl rfl ?_
    exact mm_iret h he rfl d_MD_readCells_35 hca hsa (k1 c1)
theorem s_MD_readCells_38 {E : mm_E} {Γ : mm_G} {lev kc ks ca sa : Nat} {w : mm_W} {f : mm_F} {Post : Option Value → mm_W → mm_F → Prop} (h : mm_ok E Γ b_MD_readCells 4 "PlannedTablesModel" lev kc ks) (he : mm_end E Γ (some .int) kc ks Post y_MD_readCells.name) (hca : ca ≤ kc) (hsa : sa ≤ ks) (hw : mm_sh w) {x1 : Int32} {x2 : Int32} {x3 : Int32} (k0 : x2 < x3 → Post (some (.int ((x1 + x2) + 1))) w (mm_up f 136 15 x2)) {vl0 vc0 vs0 : Nat} {P0 : Option Value → mm_W → mm_F → Prop} (hl0 : vl0 < lev) (hu0 : ca + vc0 ≤ kc) (hz0 : sa + vs0 ≤ ks) (m1 : ¬ x2 < x3 → mm_C E y_MD_wordAt b_MD_wordAt 2 (some .int) vl0 vc0 vs0 [mm_rf E 136, .int (x1 + x3)] w f P0) (k2 : ¬ x2 < x3 → ∀ (r : Option Value) (w1 : mm_W) (f1 : mm_F), P0 r w1 f1 → mm_go E Γ 4 55 [(0, mm_rf E 136), (1, .int x1), (2, .int x2), (3, .int x3)] (r.toList ++ [mm_rf E 136, .int (x1 + x3), mm_rf E 136]) w1 f1 (ca + vc0) (sa + vs0)) : mm_go E Γ 4 38 [(0, mm_rf E 136), (1, .int x1), (2, .int x2), (3, .int x3)] [] w f ca sa := by
  refine mm_iload_n h d_MD_readCells_38 3 rfl rfl ?_
  refine mm_iload_n h d_MD_readCells_39 2 rfl rfl ?_
  refine mm_icmp_gt h d_MD_readCells_40 (tgt := 67) (by decide) (fun c1 => ?_) (fun c1 => ?_)
  · skip
    refine mm_aload_n h d_MD_readCells_67 0 rfl rfl ?_
    refine mm_iload_n h d_MD_readCells_68 2 rfl rfl ?_
    refine mm_puti h fl_MD_95 (Or.inl rfl) rfl rfl rfl (is_MO hw) d_MD_readCells_69 ?_
    refine mm_iload_n h d_MD_readCells_72 1 rfl rfl ?_
    refine mm_iload_n h d_MD_readCells_73 2 rfl rfl ?_
    refine mm_iadd h d_MD_readCells_74 ?_
    refine mm_iconst (v := 1) h d_MD_readCells_75 (by decide) ?_
    refine mm_iadd h d_MD_readCells_76 ?_
    exact mm_iret h he rfl d_MD_readCells_77 hca hsa (k0 c1)
  · skip
    refine mm_aload_n h d_MD_readCells_43 0 rfl rfl ?_
    refine mm_iload_n h d_MD_readCells_44 1 rfl rfl ?_
    refine mm_iload_n h d_MD_readCells_45 3 rfl rfl ?_
    refine mm_iadd h d_MD_readCells_46 ?_
    refine mm_aload_n h d_MD_readCells_47 0 rfl rfl ?_
    refine mm_aload_n h d_MD_readCells_48 0 rfl rfl ?_
    refine mm_iload_n h d_MD_readCells_49 1 rfl rfl ?_
    refine mm_iload_n h d_MD_readCells_50 3 rfl rfl ?_
    refine mm_iadd h d_MD_readCells_51 ?_
    exact mm_callV (As := [.int (x1 + x3)]) (rest := [mm_rf E 136, .int (x1 + x3), mm_rf E 136]) h (m1 c1) cv_MD_88 cm_MD_wordAt hl0 (q0 := _) rfl rfl (is_MO hw) hu0 hz0 rfl rfl (Nat.le_of_ble_eq_true rfl) d_MD_readCells_52 (fun r w1 f1 hp => (k2 c1) r w1 f1 hp)
theorem s_MD_readCells_55 {E : mm_E} {Γ : mm_G} {lev kc ks ca sa : Nat} {w : mm_W} {f : mm_F} (h : mm_ok E Γ b_MD_readCells 4 "PlannedTablesModel" lev kc ks) (hw : mm_sh w) {x1 : Int32} {x2 : Int32} {x3 : Int32} {xk1 : Int32} {xk3 : Int32} {vl0 vc0 vs0 : Nat} {P0 : Option Value → mm_W → mm_F → Prop} (hl0 : vl0 < lev) (hu0 : ca + vc0 ≤ kc) (hz0 : sa + vs0 ≤ ks) (m0 : mm_C E y_MD_isCell b_MD_isCell 2 (some .boolean) vl0 vc0 vs0 [mm_rf E 136, .int xk3] w f P0) (k1 : ∀ (r : Option Value) (w1 : mm_W) (f1 : mm_F), P0 r w1 f1 → mm_go E Γ 4 58 [(0, mm_rf E 136), (1, .int x1), (2, .int x2), (3, .int x3)] (r.toList ++ [.int xk1, mm_rf E 136]) w1 f1 (ca + vc0) (sa + vs0)) : mm_go E Γ 4 55 [(0, mm_rf E 136), (1, .int x1), (2, .int x2), (3, .int x3)] [.int xk3, mm_rf E 136, .int xk1, mm_rf E 136] w f ca sa := by
  exact mm_callV (As := [.int xk3]) (rest := [.int xk1, mm_rf E 136]) h m0 cv_MD_98 cm_MD_isCell hl0 (q0 := _) rfl rfl (is_MO hw) hu0 hz0 rfl rfl (Nat.le_of_ble_eq_true rfl) d_MD_readCells_55 (fun r w1 f1 hp => k1 r w1 f1 hp)
theorem s_MD_readCells_58 {E : mm_E} {Γ : mm_G} {lev kc ks ca sa : Nat} {w : mm_W} {f : mm_F} (h : mm_ok E Γ b_MD_readCells 4 "PlannedTablesModel" lev kc ks) (hw : mm_sh w) {x1 : Int32} {x2 : Int32} {x3 : Int32} {xk1 : Int32} {xk2 : Int32} {vl0 vc0 vs0 : Nat} {P0 : Option Value → mm_W → mm_F → Prop} (hl0 : vl0 < lev) (hu0 : ca + vc0 ≤ kc) (hz0 : sa + vs0 ≤ ks) (m0 : mm_C E y_MD_demand b_MD_demand 3 none vl0 vc0 vs0 [mm_rf E 136, .int xk1, .int xk2] w f P0) (k1 : ∀ (r : Option Value) (w1 : mm_W) (f1 : mm_F), P0 r w1 f1 → mm_go E Γ 4 61 [(0, mm_rf E 136), (1, .int x1), (2, .int x2), (3, .int x3)] (r.toList ++ []) w1 f1 (ca + vc0) (sa + vs0)) : mm_go E Γ 4 58 [(0, mm_rf E 136), (1, .int x1), (2, .int x2), (3, .int x3)] [.int xk2, .int xk1, mm_rf E 136] w f ca sa := by
  exact mm_callV (As := [.int xk1, .int xk2]) (rest := []) h m0 cv_MD_91 cm_MD_demand hl0 (q0 := _) rfl rfl (is_MO hw) hu0 hz0 rfl rfl (Nat.le_of_ble_eq_true rfl) d_MD_readCells_58 (fun r w1 f1 hp => k1 r w1 f1 hp)
theorem s_MD_readCells_61 {E : mm_E} {Γ : mm_G} {lev kc ks ca sa : Nat} {w : mm_W} {f : mm_F} (h : mm_ok E Γ b_MD_readCells 4 "PlannedTablesModel" lev kc ks) (hw : mm_sh w) {x1 : Int32} {x2 : Int32} {x3 : Int32} (k0 : mm_go E Γ 4 38 [(0, mm_rf E 136), (1, .int x1), (2, .int x2), (3, .int (x3 + 1))] [] w f ca sa) : mm_go E Γ 4 61 [(0, mm_rf E 136), (1, .int x1), (2, .int x2), (3, .int x3)] [] w f ca sa := by
  refine mm_iinc (lv' := [(3, .int (x3 + 1)), (0, mm_rf E 136), (1, .int x1), (2, .int x2)]) h d_MD_readCells_61 3 rfl (congrArg (fun z => x3 + z) lit1) (by decide) rfl ?_
  refine mm_goto h d_MD_readCells_64 (tgt := 38) (by decide) ?_
  refine mm_sub [1, 2, 3, 0] rfl ?_
  exact k0
theorem d_MD_readJoin_0 : decode b_MD_readJoin 0 = .ok (.aload_n 0, 1) := by decide +kernel
theorem d_MD_readJoin_1 : decode b_MD_readJoin 1 = .ok (.iload_n 1, 1) := by decide +kernel
theorem d_MD_readJoin_2 : decode b_MD_readJoin 2 = .ok (.invokevirtual 88, 3) := by decide +kernel
theorem d_MD_readJoin_5 : decode b_MD_readJoin 5 = .ok (.istore_n 2, 1) := by decide +kernel
theorem d_MD_readJoin_6 : decode b_MD_readJoin 6 = .ok (.aload_n 0, 1) := by decide +kernel
theorem d_MD_readJoin_7 : decode b_MD_readJoin 7 = .ok (.iload_n 1, 1) := by decide +kernel
theorem d_MD_readJoin_8 : decode b_MD_readJoin 8 = .ok (.aload_n 0, 1) := by decide +kernel
theorem d_MD_readJoin_9 : decode b_MD_readJoin 9 = .ok (.iload_n 2, 1) := by decide +kernel
theorem d_MD_readJoin_10 : decode b_MD_readJoin 10 = .ok (.invokevirtual 63, 3) := by decide +kernel
theorem d_MD_readJoin_13 : decode b_MD_readJoin 13 = .ok (.ifCond .eq (25), 3) := by decide +kernel
theorem d_MD_readJoin_16 : decode b_MD_readJoin 16 = .ok (.aload_n 0, 1) := by decide +kernel
theorem d_MD_readJoin_17 : decode b_MD_readJoin 17 = .ok (.getfield 95, 3) := by decide +kernel
theorem d_MD_readJoin_20 : decode b_MD_readJoin 20 = .ok (.aload_n 0, 1) := by decide +kernel
theorem d_MD_readJoin_21 : decode b_MD_readJoin 21 = .ok (.getfield 7, 3) := by decide +kernel
theorem d_MD_readJoin_24 : decode b_MD_readJoin 24 = .ok (.iload_n 2, 1) := by decide +kernel
theorem d_MD_readJoin_25 : decode b_MD_readJoin 25 = .ok (.iconst (3), 1) := by decide +kernel
theorem d_MD_readJoin_26 : decode b_MD_readJoin 26 = .ok (.iand, 1) := by decide +kernel
theorem d_MD_readJoin_27 : decode b_MD_readJoin 27 = .ok (.iaload, 1) := by decide +kernel
theorem d_MD_readJoin_28 : decode b_MD_readJoin 28 = .ok (.iadd, 1) := by decide +kernel
theorem d_MD_readJoin_29 : decode b_MD_readJoin 29 = .ok (.bipush (8), 2) := by decide +kernel
theorem d_MD_readJoin_31 : decode b_MD_readJoin 31 = .ok (.if_icmp .gt (7), 3) := by decide +kernel
theorem d_MD_readJoin_34 : decode b_MD_readJoin 34 = .ok (.iconst (1), 1) := by decide +kernel
theorem d_MD_readJoin_35 : decode b_MD_readJoin 35 = .ok (.goto (4), 3) := by decide +kernel
theorem d_MD_readJoin_38 : decode b_MD_readJoin 38 = .ok (.iconst (0), 1) := by decide +kernel
theorem d_MD_readJoin_39 : decode b_MD_readJoin 39 = .ok (.invokevirtual 91, 3) := by decide +kernel
theorem d_MD_readJoin_42 : decode b_MD_readJoin 42 = .ok (.aload_n 0, 1) := by decide +kernel
theorem d_MD_readJoin_43 : decode b_MD_readJoin 43 = .ok (.getfield 85, 3) := by decide +kernel
theorem d_MD_readJoin_46 : decode b_MD_readJoin 46 = .ok (.ifCond .lt (5), 3) := by decide +kernel
theorem d_MD_readJoin_49 : decode b_MD_readJoin 49 = .ok (.iload_n 1, 1) := by decide +kernel
theorem d_MD_readJoin_50 : decode b_MD_readJoin 50 = .ok (.ireturn, 1) := by decide +kernel
theorem d_MD_readJoin_51 : decode b_MD_readJoin 51 = .ok (.aload_n 0, 1) := by decide +kernel
theorem d_MD_readJoin_52 : decode b_MD_readJoin 52 = .ok (.iload_n 1, 1) := by decide +kernel
theorem d_MD_readJoin_53 : decode b_MD_readJoin 53 = .ok (.iconst (1), 1) := by decide +kernel
theorem d_MD_readJoin_54 : decode b_MD_readJoin 54 = .ok (.iadd, 1) := by decide +kernel
theorem d_MD_readJoin_55 : decode b_MD_readJoin 55 = .ok (.invokevirtual 88, 3) := by decide +kernel
theorem d_MD_readJoin_58 : decode b_MD_readJoin 58 = .ok (.istore_n 3, 1) := by decide +kernel
theorem d_MD_readJoin_59 : decode b_MD_readJoin 59 = .ok (.aload_n 0, 1) := by decide +kernel
theorem d_MD_readJoin_60 : decode b_MD_readJoin 60 = .ok (.iload_n 1, 1) := by decide +kernel
theorem d_MD_readJoin_61 : decode b_MD_readJoin 61 = .ok (.iconst (1), 1) := by decide +kernel
theorem d_MD_readJoin_62 : decode b_MD_readJoin 62 = .ok (.iadd, 1) := by decide +kernel
theorem d_MD_readJoin_63 : decode b_MD_readJoin 63 = .ok (.aload_n 0, 1) := by decide +kernel
theorem d_MD_readJoin_64 : decode b_MD_readJoin 64 = .ok (.iload_n 2, 1) := by decide +kernel
theorem d_MD_readJoin_65 : decode b_MD_readJoin 65 = .ok (.iload_n 3, 1) := by decide +kernel
theorem d_MD_readJoin_66 : decode b_MD_readJoin 66 = .ok (.invokevirtual 67, 3) := by decide +kernel
theorem d_MD_readJoin_69 : decode b_MD_readJoin 69 = .ok (.ifCond .eq (22), 3) := by decide +kernel
theorem d_MD_readJoin_72 : decode b_MD_readJoin 72 = .ok (.aload_n 0, 1) := by decide +kernel
theorem d_MD_readJoin_73 : decode b_MD_readJoin 73 = .ok (.getfield 13, 3) := by decide +kernel
theorem d_MD_readJoin_76 : decode b_MD_readJoin 76 = .ok (.iconst (4), 1) := by decide +kernel
theorem d_MD_readJoin_77 : decode b_MD_readJoin 77 = .ok (.iload_n 2, 1) := by decide +kernel
theorem d_MD_readJoin_78 : decode b_MD_readJoin 78 = .ok (.imul, 1) := by decide +kernel
theorem d_MD_readJoin_79 : decode b_MD_readJoin 79 = .ok (.iload_n 3, 1) := by decide +kernel
theorem d_MD_readJoin_80 : decode b_MD_readJoin 80 = .ok (.iconst (3), 1) := by decide +kernel
theorem d_MD_readJoin_81 : decode b_MD_readJoin 81 = .ok (.iand, 1) := by decide +kernel
theorem d_MD_readJoin_82 : decode b_MD_readJoin 82 = .ok (.iadd, 1) := by decide +kernel
theorem d_MD_readJoin_83 : decode b_MD_readJoin 83 = .ok (.baload, 1) := by decide +kernel
theorem d_MD_readJoin_84 : decode b_MD_readJoin 84 = .ok (.ifCond .eq (7), 3) := by decide +kernel
theorem d_MD_readJoin_87 : decode b_MD_readJoin 87 = .ok (.iconst (1), 1) := by decide +kernel
theorem d_MD_readJoin_88 : decode b_MD_readJoin 88 = .ok (.goto (4), 3) := by decide +kernel
theorem d_MD_readJoin_91 : decode b_MD_readJoin 91 = .ok (.iconst (0), 1) := by decide +kernel
theorem d_MD_readJoin_92 : decode b_MD_readJoin 92 = .ok (.invokevirtual 91, 3) := by decide +kernel
theorem d_MD_readJoin_95 : decode b_MD_readJoin 95 = .ok (.aload_n 0, 1) := by decide +kernel
theorem d_MD_readJoin_96 : decode b_MD_readJoin 96 = .ok (.iload_n 1, 1) := by decide +kernel
theorem d_MD_readJoin_97 : decode b_MD_readJoin 97 = .ok (.iconst (2), 1) := by decide +kernel
theorem d_MD_readJoin_98 : decode b_MD_readJoin 98 = .ok (.iadd, 1) := by decide +kernel
theorem d_MD_readJoin_99 : decode b_MD_readJoin 99 = .ok (.aload_n 0, 1) := by decide +kernel
theorem d_MD_readJoin_100 : decode b_MD_readJoin 100 = .ok (.aload_n 0, 1) := by decide +kernel
theorem d_MD_readJoin_101 : decode b_MD_readJoin 101 = .ok (.iload_n 1, 1) := by decide +kernel
theorem d_MD_readJoin_102 : decode b_MD_readJoin 102 = .ok (.iconst (2), 1) := by decide +kernel
theorem d_MD_readJoin_103 : decode b_MD_readJoin 103 = .ok (.iadd, 1) := by decide +kernel
theorem d_MD_readJoin_104 : decode b_MD_readJoin 104 = .ok (.invokevirtual 88, 3) := by decide +kernel
theorem d_MD_readJoin_107 : decode b_MD_readJoin 107 = .ok (.invokevirtual 98, 3) := by decide +kernel
theorem d_MD_readJoin_110 : decode b_MD_readJoin 110 = .ok (.invokevirtual 91, 3) := by decide +kernel
theorem d_MD_readJoin_113 : decode b_MD_readJoin 113 = .ok (.aload_n 0, 1) := by decide +kernel
theorem d_MD_readJoin_114 : decode b_MD_readJoin 114 = .ok (.aload_n 0, 1) := by decide +kernel
theorem d_MD_readJoin_115 : decode b_MD_readJoin 115 = .ok (.getfield 95, 3) := by decide +kernel
theorem d_MD_readJoin_118 : decode b_MD_readJoin 118 = .ok (.aload_n 0, 1) := by decide +kernel
theorem d_MD_readJoin_119 : decode b_MD_readJoin 119 = .ok (.getfield 7, 3) := by decide +kernel
theorem d_MD_readJoin_122 : decode b_MD_readJoin 122 = .ok (.iload_n 2, 1) := by decide +kernel
theorem d_MD_readJoin_123 : decode b_MD_readJoin 123 = .ok (.iaload, 1) := by decide +kernel
theorem d_MD_readJoin_124 : decode b_MD_readJoin 124 = .ok (.iadd, 1) := by decide +kernel
theorem d_MD_readJoin_125 : decode b_MD_readJoin 125 = .ok (.putfield 95, 3) := by decide +kernel
theorem d_MD_readJoin_128 : decode b_MD_readJoin 128 = .ok (.iload_n 1, 1) := by decide +kernel
theorem d_MD_readJoin_129 : decode b_MD_readJoin 129 = .ok (.iconst (3), 1) := by decide +kernel
theorem d_MD_readJoin_130 : decode b_MD_readJoin 130 = .ok (.iadd, 1) := by decide +kernel
theorem d_MD_readJoin_131 : decode b_MD_readJoin 131 = .ok (.ireturn, 1) := by decide +kernel
theorem s_MD_readJoin_0 {E : mm_E} {Γ : mm_G} {lev kc ks ca sa : Nat} {w : mm_W} {f : mm_F} (h : mm_ok E Γ b_MD_readJoin 4 "PlannedTablesModel" lev kc ks) (hw : mm_sh w) {x1 : Int32} {vl0 vc0 vs0 : Nat} {P0 : Option Value → mm_W → mm_F → Prop} (hl0 : vl0 < lev) (hu0 : ca + vc0 ≤ kc) (hz0 : sa + vs0 ≤ ks) (m0 : mm_C E y_MD_wordAt b_MD_wordAt 2 (some .int) vl0 vc0 vs0 [mm_rf E 136, .int x1] w f P0) (k1 : ∀ (r : Option Value) (w1 : mm_W) (f1 : mm_F), P0 r w1 f1 → mm_go E Γ 4 5 [(0, mm_rf E 136), (1, .int x1)] (r.toList ++ []) w1 f1 (ca + vc0) (sa + vs0)) : mm_go E Γ 4 0 [(0, mm_rf E 136), (1, .int x1)] [] w f ca sa := by
  refine mm_aload_n h d_MD_readJoin_0 0 rfl rfl ?_
  refine mm_iload_n h d_MD_readJoin_1 1 rfl rfl ?_
  exact mm_callV (As := [.int x1]) (rest := []) h m0 cv_MD_88 cm_MD_wordAt hl0 (q0 := _) rfl rfl (is_MO hw) hu0 hz0 rfl rfl (Nat.le_of_ble_eq_true rfl) d_MD_readJoin_2 (fun r w1 f1 hp => k1 r w1 f1 hp)
theorem s_MD_readJoin_5 {E : mm_E} {Γ : mm_G} {lev kc ks ca sa : Nat} {w : mm_W} {f : mm_F} (h : mm_ok E Γ b_MD_readJoin 4 "PlannedTablesModel" lev kc ks) (hw : mm_sh w) {x1 : Int32} {xk0 : Int32} {vl0 vc0 vs0 : Nat} {P0 : Option Value → mm_W → mm_F → Prop} (hl0 : vl0 < lev) (hu0 : ca + vc0 ≤ kc) (hz0 : sa + vs0 ≤ ks) (m0 : mm_C E y_MD_isTable b_MD_isTable 2 (some .boolean) vl0 vc0 vs0 [mm_rf E 136, .int xk0] w f P0) (k1 : ∀ (r : Option Value) (w1 : mm_W) (f1 : mm_F), P0 r w1 f1 → mm_go E Γ 4 13 [(0, mm_rf E 136), (1, .int x1), (2, .int xk0)] (r.toList ++ [.int x1, mm_rf E 136]) w1 f1 (ca + vc0) (sa + vs0)) : mm_go E Γ 4 5 [(0, mm_rf E 136), (1, .int x1)] [.int xk0] w f ca sa := by
  refine mm_istore_n (lv' := [(2, .int xk0), (0, mm_rf E 136), (1, .int x1)]) h d_MD_readJoin_5 rfl (by decide) rfl ?_
  refine mm_aload_n h d_MD_readJoin_6 1 rfl rfl ?_
  refine mm_iload_n h d_MD_readJoin_7 2 rfl rfl ?_
  refine mm_aload_n h d_MD_readJoin_8 1 rfl rfl ?_
  refine mm_iload_n h d_MD_readJoin_9 0 rfl rfl ?_
  exact mm_callV (As := [.int xk0]) (rest := [.int x1, mm_rf E 136]) h m0 cv_MD_63 cm_MD_isTable hl0 (q0 := _) rfl rfl (is_MO hw) hu0 hz0 rfl rfl (Nat.le_of_ble_eq_true rfl) d_MD_readJoin_10 (fun r w1 f1 hp => mm_sub [1, 2, 0] rfl (k1 r w1 f1 hp))
theorem s_MD_readJoin_13 {E : mm_E} {Γ : mm_G} {lev kc ks ca sa : Nat} {w : mm_W} {f : mm_F} (h : mm_ok E Γ b_MD_readJoin 4 "PlannedTablesModel" lev kc ks) (hw : mm_sh w) {x1 : Int32} {x2 : Int32} {xk1 : Int32} {xk2 : Int32} (k0 : xk2 = 0 → mm_go E Γ 4 38 [(0, mm_rf E 136), (1, .int x1), (2, .int x2)] [.int xk1, mm_rf E 136] w f ca sa) (b1 : ¬ xk2 = 0 → vp_in (x2 &&& 3) 4) (k2 : ¬ xk2 = 0 → 8 < ((f 136 15) + (f 137 ((x2 &&& 3)).toNatClampNeg)) → mm_go E Γ 4 38 [(0, mm_rf E 136), (1, .int x1), (2, .int x2)] [.int xk1, mm_rf E 136] w f ca sa) (k3 : ¬ xk2 = 0 → ¬ 8 < ((f 136 15) + (f 137 ((x2 &&& 3)).toNatClampNeg)) → mm_go E Γ 4 39 [(0, mm_rf E 136), (1, .int x1), (2, .int x2)] [.int 1, .int xk1, mm_rf E 136] w f ca sa) : mm_go E Γ 4 13 [(0, mm_rf E 136), (1, .int x1), (2, .int x2)] [.int xk2, .int xk1, mm_rf E 136] w f ca sa := by
  refine mm_if_eq h d_MD_readJoin_13 (tgt := 38) (by decide) (fun c1 => ?_) (fun c1 => ?_)
  · skip
    exact (k0 c1)
  · skip
    refine mm_aload_n h d_MD_readJoin_16 0 rfl rfl ?_
    refine mm_geti h fl_MD_95 rfl (is_MO hw) d_MD_readJoin_17 ?_
    refine mm_aload_n h d_MD_readJoin_20 0 rfl rfl ?_
    refine mm_getr h fl_MD_7 rfl (is_MO hw) (rf_MO_columns hw) (is_Mcolumns hw).1.1 d_MD_readJoin_21 ?_
    refine mm_iload_n h d_MD_readJoin_24 2 rfl rfl ?_
    refine mm_iconst (v := 3) h d_MD_readJoin_25 (by decide) ?_
    refine mm_iand h d_MD_readJoin_26 ?_
    refine mm_iald h (is_Mcolumns hw) (b1 c1) d_MD_readJoin_27 ?_
    refine mm_iadd h d_MD_readJoin_28 ?_
    refine mm_bipush (v := 8) h d_MD_readJoin_29 (by decide) ?_
    refine mm_icmp_gt h d_MD_readJoin_31 (tgt := 38) (by decide) (fun c2 => ?_) (fun c2 => ?_)
    · skip
      exact (k2 c1 c2)
    · skip
      refine mm_iconst (v := 1) h d_MD_readJoin_34 (by decide) ?_
      refine mm_goto h d_MD_readJoin_35 (tgt := 39) (by decide) ?_
      exact (k3 c1 c2)
theorem s_MD_readJoin_38 {E : mm_E} {Γ : mm_G} {lev kc ks ca sa : Nat} {w : mm_W} {f : mm_F} (h : mm_ok E Γ b_MD_readJoin 4 "PlannedTablesModel" lev kc ks) (hw : mm_sh w) {x1 : Int32} {x2 : Int32} {xk1 : Int32} (k0 : mm_go E Γ 4 39 [(0, mm_rf E 136), (1, .int x1), (2, .int x2)] [.int 0, .int xk1, mm_rf E 136] w f ca sa) : mm_go E Γ 4 38 [(0, mm_rf E 136), (1, .int x1), (2, .int x2)] [.int xk1, mm_rf E 136] w f ca sa := by
  refine mm_iconst (v := 0) h d_MD_readJoin_38 (by decide) ?_
  exact k0
theorem s_MD_readJoin_39 {E : mm_E} {Γ : mm_G} {lev kc ks ca sa : Nat} {w : mm_W} {f : mm_F} (h : mm_ok E Γ b_MD_readJoin 4 "PlannedTablesModel" lev kc ks) (hw : mm_sh w) {x1 : Int32} {x2 : Int32} {xk1 : Int32} {xk2 : Int32} {vl0 vc0 vs0 : Nat} {P0 : Option Value → mm_W → mm_F → Prop} (hl0 : vl0 < lev) (hu0 : ca + vc0 ≤ kc) (hz0 : sa + vs0 ≤ ks) (m0 : mm_C E y_MD_demand b_MD_demand 3 none vl0 vc0 vs0 [mm_rf E 136, .int xk1, .int xk2] w f P0) (k1 : ∀ (r : Option Value) (w1 : mm_W) (f1 : mm_F), P0 r w1 f1 → mm_go E Γ 4 42 [(0, mm_rf E 136), (1, .int x1), (2, .int x2)] (r.toList ++ []) w1 f1 (ca + vc0) (sa + vs0)) : mm_go E Γ 4 39 [(0, mm_rf E 136), (1, .int x1), (2, .int x2)] [.int xk2, .int xk1, mm_rf E 136] w f ca sa := by
  exact mm_callV (As := [.int xk1, .int xk2]) (rest := []) h m0 cv_MD_91 cm_MD_demand hl0 (q0 := _) rfl rfl (is_MO hw) hu0 hz0 rfl rfl (Nat.le_of_ble_eq_true rfl) d_MD_readJoin_39 (fun r w1 f1 hp => k1 r w1 f1 hp)
theorem s_MD_readJoin_42 {E : mm_E} {Γ : mm_G} {lev kc ks ca sa : Nat} {w : mm_W} {f : mm_F} {Post : Option Value → mm_W → mm_F → Prop} (h : mm_ok E Γ b_MD_readJoin 4 "PlannedTablesModel" lev kc ks) (he : mm_end E Γ (some .int) kc ks Post y_MD_readJoin.name) (hca : ca ≤ kc) (hsa : sa ≤ ks) (hw : mm_sh w) {x1 : Int32} {x2 : Int32} {vl0 vc0 vs0 : Nat} {P0 : Option Value → mm_W → mm_F → Prop} (hl0 : vl0 < lev) (hu0 : ca + vc0 ≤ kc) (hz0 : sa + vs0 ≤ ks) (m0 : (f 136 11) < 0 → mm_C E y_MD_wordAt b_MD_wordAt 2 (some .int) vl0 vc0 vs0 [mm_rf E 136, .int (x1 + 1)] w f P0) (k1 : (f 136 11) < 0 → ∀ (r : Option Value) (w1 : mm_W) (f1 : mm_F), P0 r w1 f1 → mm_go E Γ 4 58 [(0, mm_rf E 136), (1, .int x1), (2, .int x2)] (r.toList ++ []) w1 f1 (ca + vc0) (sa + vs0)) (k2 : ¬ (f 136 11) < 0 → Post (some (.int x1)) w f) : mm_go E Γ 4 42 [(0, mm_rf E 136), (1, .int x1), (2, .int x2)] [] w f ca sa := by
  refine mm_aload_n h d_MD_readJoin_42 0 rfl rfl ?_
  refine mm_geti h fl_MD_85 rfl (is_MO hw) d_MD_readJoin_43 ?_
  refine mm_if_lt h d_MD_readJoin_46 (tgt := 51) (by decide) (fun c1 => ?_) (fun c1 => ?_)
  · skip
    refine mm_aload_n h d_MD_readJoin_51 0 rfl rfl ?_
    refine mm_iload_n h d_MD_readJoin_52 1 rfl rfl ?_
    refine mm_iconst (v := 1) h d_MD_readJoin_53 (by decide) ?_
    refine mm_iadd h d_MD_readJoin_54 ?_
    exact mm_callV (As := [.int (x1 + 1)]) (rest := []) h (m0 c1) cv_MD_88 cm_MD_wordAt hl0 (q0 := _) rfl rfl (is_MO hw) hu0 hz0 rfl rfl (Nat.le_of_ble_eq_true rfl) d_MD_readJoin_55 (fun r w1 f1 hp => (k1 c1) r w1 f1 hp)
  · skip
    refine mm_iload_n h d_MD_readJoin_49 1 rfl rfl ?_
    exact mm_iret h he rfl d_MD_readJoin_50 hca hsa (k2 c1)
theorem s_MD_readJoin_58 {E : mm_E} {Γ : mm_G} {lev kc ks ca sa : Nat} {w : mm_W} {f : mm_F} (h : mm_ok E Γ b_MD_readJoin 4 "PlannedTablesModel" lev kc ks) (hw : mm_sh w) {x1 : Int32} {x2 : Int32} {xk0 : Int32} {vl0 vc0 vs0 : Nat} {P0 : Option Value → mm_W → mm_F → Prop} (hl0 : vl0 < lev) (hu0 : ca + vc0 ≤ kc) (hz0 : sa + vs0 ≤ ks) (m0 : mm_C E y_MD_isColumn b_MD_isColumn 3 (some .boolean) vl0 vc0 vs0 [mm_rf E 136, .int x2, .int xk0] w f P0) (k1 : ∀ (r : Option Value) (w1 : mm_W) (f1 : mm_F), P0 r w1 f1 → mm_go E Γ 4 69 [(0, mm_rf E 136), (1, .int x1), (2, .int x2), (3, .int xk0)] (r.toList ++ [.int (x1 + 1), mm_rf E 136]) w1 f1 (ca + vc0) (sa + vs0)) : mm_go E Γ 4 58 [(0, mm_rf E 136), (1, .int x1), (2, .int x2)] [.int xk0] w f ca sa := by
  refine mm_istore_n (lv' := [(3, .int xk0), (0, mm_rf E 136), (1, .int x1), (2, .int x2)]) h d_MD_readJoin_58 rfl (by decide) rfl ?_
  refine mm_aload_n h d_MD_readJoin_59 1 rfl rfl ?_
  refine mm_iload_n h d_MD_readJoin_60 2 rfl rfl ?_
  refine mm_iconst (v := 1) h d_MD_readJoin_61 (by decide) ?_
  refine mm_iadd h d_MD_readJoin_62 ?_
  refine mm_aload_n h d_MD_readJoin_63 1 rfl rfl ?_
  refine mm_iload_n h d_MD_readJoin_64 3 rfl rfl ?_
  refine mm_iload_n h d_MD_readJoin_65 0 rfl rfl ?_
  exact mm_callV (As := [.int x2, .int xk0]) (rest := [.int (x1 + 1), mm_rf E 136]) h m0 cv_MD_67 cm_MD_isColumn hl0 (q0 := _) rfl rfl (is_MO hw) hu0 hz0 rfl rfl (Nat.le_of_ble_eq_true rfl) d_MD_readJoin_66 (fun r w1 f1 hp => mm_sub [1, 2, 3, 0] rfl (k1 r w1 f1 hp))
theorem s_MD_readJoin_69 {E : mm_E} {Γ : mm_G} {lev kc ks ca sa : Nat} {w : mm_W} {f : mm_F} (h : mm_ok E Γ b_MD_readJoin 4 "PlannedTablesModel" lev kc ks) (hw : mm_sh w) {x1 : Int32} {x2 : Int32} {x3 : Int32} {xk1 : Int32} {xk2 : Int32} (k0 : xk2 = 0 → mm_go E Γ 4 91 [(0, mm_rf E 136), (1, .int x1), (2, .int x2), (3, .int x3)] [.int xk1, mm_rf E 136] w f ca sa) (b1 : ¬ xk2 = 0 → vp_in ((4 * x2) + (x3 &&& 3)) 16) (k2 : ¬ xk2 = 0 → (f 138 (((4 * x2) + (x3 &&& 3))).toNatClampNeg) = 0 → mm_go E Γ 4 91 [(0, mm_rf E 136), (1, .int x1), (2, .int x2), (3, .int x3)] [.int xk1, mm_rf E 136] w f ca sa) (k3 : ¬ xk2 = 0 → ¬ (f 138 (((4 * x2) + (x3 &&& 3))).toNatClampNeg) = 0 → mm_go E Γ 4 92 [(0, mm_rf E 136), (1, .int x1), (2, .int x2), (3, .int x3)] [.int 1, .int xk1, mm_rf E 136] w f ca sa) : mm_go E Γ 4 69 [(0, mm_rf E 136), (1, .int x1), (2, .int x2), (3, .int x3)] [.int xk2, .int xk1, mm_rf E 136] w f ca sa := by
  refine mm_if_eq h d_MD_readJoin_69 (tgt := 91) (by decide) (fun c1 => ?_) (fun c1 => ?_)
  · skip
    exact (k0 c1)
  · skip
    refine mm_aload_n h d_MD_readJoin_72 0 rfl rfl ?_
    refine mm_getr h fl_MD_13 rfl (is_MO hw) (rf_MO_indexed hw) (is_Mindexed hw).1.1 d_MD_readJoin_73 ?_
    refine mm_iconst (v := 4) h d_MD_readJoin_76 (by decide) ?_
    refine mm_iload_n h d_MD_readJoin_77 2 rfl rfl ?_
    refine mm_imul h d_MD_readJoin_78 ?_
    refine mm_iload_n h d_MD_readJoin_79 3 rfl rfl ?_
    refine mm_iconst (v := 3) h d_MD_readJoin_80 (by decide) ?_
    refine mm_iand h d_MD_readJoin_81 ?_
    refine mm_iadd h d_MD_readJoin_82 ?_
    refine mm_zald h (is_Mindexed hw) (b1 c1) d_MD_readJoin_83 ?_
    refine mm_if_eq h d_MD_readJoin_84 (tgt := 91) (by decide) (fun c2 => ?_) (fun c2 => ?_)
    · skip
      exact (k2 c1 c2)
    · skip
      refine mm_iconst (v := 1) h d_MD_readJoin_87 (by decide) ?_
      refine mm_goto h d_MD_readJoin_88 (tgt := 92) (by decide) ?_
      exact (k3 c1 c2)
theorem s_MD_readJoin_91 {E : mm_E} {Γ : mm_G} {lev kc ks ca sa : Nat} {w : mm_W} {f : mm_F} (h : mm_ok E Γ b_MD_readJoin 4 "PlannedTablesModel" lev kc ks) (hw : mm_sh w) {x1 : Int32} {x2 : Int32} {x3 : Int32} {xk1 : Int32} (k0 : mm_go E Γ 4 92 [(0, mm_rf E 136), (1, .int x1), (2, .int x2), (3, .int x3)] [.int 0, .int xk1, mm_rf E 136] w f ca sa) : mm_go E Γ 4 91 [(0, mm_rf E 136), (1, .int x1), (2, .int x2), (3, .int x3)] [.int xk1, mm_rf E 136] w f ca sa := by
  refine mm_iconst (v := 0) h d_MD_readJoin_91 (by decide) ?_
  exact k0
theorem s_MD_readJoin_92 {E : mm_E} {Γ : mm_G} {lev kc ks ca sa : Nat} {w : mm_W} {f : mm_F} (h : mm_ok E Γ b_MD_readJoin 4 "PlannedTablesModel" lev kc ks) (hw : mm_sh w) {x1 : Int32} {x2 : Int32} {x3 : Int32} {xk1 : Int32} {xk2 : Int32} {vl0 vc0 vs0 : Nat} {P0 : Option Value → mm_W → mm_F → Prop} (hl0 : vl0 < lev) (hu0 : ca + vc0 ≤ kc) (hz0 : sa + vs0 ≤ ks) (m0 : mm_C E y_MD_demand b_MD_demand 3 none vl0 vc0 vs0 [mm_rf E 136, .int xk1, .int xk2] w f P0) (k1 : ∀ (r : Option Value) (w1 : mm_W) (f1 : mm_F), P0 r w1 f1 → mm_go E Γ 4 95 [(0, mm_rf E 136), (1, .int x1), (2, .int x2), (3, .int x3)] (r.toList ++ []) w1 f1 (ca + vc0) (sa + vs0)) : mm_go E Γ 4 92 [(0, mm_rf E 136), (1, .int x1), (2, .int x2), (3, .int x3)] [.int xk2, .int xk1, mm_rf E 136] w f ca sa := by
  exact mm_callV (As := [.int xk1, .int xk2]) (rest := []) h m0 cv_MD_91 cm_MD_demand hl0 (q0 := _) rfl rfl (is_MO hw) hu0 hz0 rfl rfl (Nat.le_of_ble_eq_true rfl) d_MD_readJoin_92 (fun r w1 f1 hp => k1 r w1 f1 hp)
theorem s_MD_readJoin_95 {E : mm_E} {Γ : mm_G} {lev kc ks ca sa : Nat} {w : mm_W} {f : mm_F} (h : mm_ok E Γ b_MD_readJoin 4 "PlannedTablesModel" lev kc ks) (hw : mm_sh w) {x1 : Int32} {x2 : Int32} {x3 : Int32} {vl0 vc0 vs0 : Nat} {P0 : Option Value → mm_W → mm_F → Prop} (hl0 : vl0 < lev) (hu0 : ca + vc0 ≤ kc) (hz0 : sa + vs0 ≤ ks) (m0 : mm_C E y_MD_wordAt b_MD_wordAt 2 (some .int) vl0 vc0 vs0 [mm_rf E 136, .int (x1 + 2)] w f P0) (k1 : ∀ (r : Option Value) (w1 : mm_W) (f1 : mm_F), P0 r w1 f1 → mm_go E Γ 4 107 [(0, mm_rf E 136), (1, .int x1), (2, .int x2), (3, .int x3)] (r.toList ++ [mm_rf E 136, .int (x1 + 2), mm_rf E 136]) w1 f1 (ca + vc0) (sa + vs0)) : mm_go E Γ 4 95 [(0, mm_rf E 136), (1, .int x1), (2, .int x2), (3, .int x3)] [] w f ca sa := by
  refine mm_aload_n h d_MD_readJoin_95 0 rfl rfl ?_
  refine mm_iload_n h d_MD_readJoin_96 1 rfl rfl ?_
  refine mm_iconst (v := 2) h d_MD_readJoin_97 (by decide) ?_
  refine mm_iadd h d_MD_readJoin_98 ?_
  refine mm_aload_n h d_MD_readJoin_99 0 rfl rfl ?_
  refine mm_aload_n h d_MD_readJoin_100 0 rfl rfl ?_
  refine mm_iload_n h d_MD_readJoin_101 1 rfl rfl ?_
  refine mm_iconst (v := 2) h d_MD_readJoin_102 (by decide) ?_
  refine mm_iadd h d_MD_readJoin_103 ?_
  exact mm_callV (As := [.int (x1 + 2)]) (rest := [mm_rf E 136, .int (x1 + 2), mm_rf E 136]) h m0 cv_MD_88 cm_MD_wordAt hl0 (q0 := _) rfl rfl (is_MO hw) hu0 hz0 rfl rfl (Nat.le_of_ble_eq_true rfl) d_MD_readJoin_104 (fun r w1 f1 hp => k1 r w1 f1 hp)
theorem s_MD_readJoin_107 {E : mm_E} {Γ : mm_G} {lev kc ks ca sa : Nat} {w : mm_W} {f : mm_F} (h : mm_ok E Γ b_MD_readJoin 4 "PlannedTablesModel" lev kc ks) (hw : mm_sh w) {x1 : Int32} {x2 : Int32} {x3 : Int32} {xk1 : Int32} {xk3 : Int32} {vl0 vc0 vs0 : Nat} {P0 : Option Value → mm_W → mm_F → Prop} (hl0 : vl0 < lev) (hu0 : ca + vc0 ≤ kc) (hz0 : sa + vs0 ≤ ks) (m0 : mm_C E y_MD_isCell b_MD_isCell 2 (some .boolean) vl0 vc0 vs0 [mm_rf E 136, .int xk3] w f P0) (k1 : ∀ (r : Option Value) (w1 : mm_W) (f1 : mm_F), P0 r w1 f1 → mm_go E Γ 4 110 [(0, mm_rf E 136), (1, .int x1), (2, .int x2), (3, .int x3)] (r.toList ++ [.int xk1, mm_rf E 136]) w1 f1 (ca + vc0) (sa + vs0)) : mm_go E Γ 4 107 [(0, mm_rf E 136), (1, .int x1), (2, .int x2), (3, .int x3)] [.int xk3, mm_rf E 136, .int xk1, mm_rf E 136] w f ca sa := by
  exact mm_callV (As := [.int xk3]) (rest := [.int xk1, mm_rf E 136]) h m0 cv_MD_98 cm_MD_isCell hl0 (q0 := _) rfl rfl (is_MO hw) hu0 hz0 rfl rfl (Nat.le_of_ble_eq_true rfl) d_MD_readJoin_107 (fun r w1 f1 hp => k1 r w1 f1 hp)
theorem s_MD_readJoin_110 {E : mm_E} {Γ : mm_G} {lev kc ks ca sa : Nat} {w : mm_W} {f : mm_F} (h : mm_ok E Γ b_MD_readJoin 4 "PlannedTablesModel" lev kc ks) (hw : mm_sh w) {x1 : Int32} {x2 : Int32} {x3 : Int32} {xk1 : Int32} {xk2 : Int32} {vl0 vc0 vs0 : Nat} {P0 : Option Value → mm_W → mm_F → Prop} (hl0 : vl0 < lev) (hu0 : ca + vc0 ≤ kc) (hz0 : sa + vs0 ≤ ks) (m0 : mm_C E y_MD_demand b_MD_demand 3 none vl0 vc0 vs0 [mm_rf E 136, .int xk1, .int xk2] w f P0) (k1 : ∀ (r : Option Value) (w1 : mm_W) (f1 : mm_F), P0 r w1 f1 → mm_go E Γ 4 113 [(0, mm_rf E 136), (1, .int x1), (2, .int x2), (3, .int x3)] (r.toList ++ []) w1 f1 (ca + vc0) (sa + vs0)) : mm_go E Γ 4 110 [(0, mm_rf E 136), (1, .int x1), (2, .int x2), (3, .int x3)] [.int xk2, .int xk1, mm_rf E 136] w f ca sa := by
  exact mm_callV (As := [.int xk1, .int xk2]) (rest := []) h m0 cv_MD_91 cm_MD_demand hl0 (q0 := _) rfl rfl (is_MO hw) hu0 hz0 rfl rfl (Nat.le_of_ble_eq_true rfl) d_MD_readJoin_110 (fun r w1 f1 hp => k1 r w1 f1 hp)
theorem s_MD_readJoin_113 {E : mm_E} {Γ : mm_G} {lev kc ks ca sa : Nat} {w : mm_W} {f : mm_F} {Post : Option Value → mm_W → mm_F → Prop} (h : mm_ok E Γ b_MD_readJoin 4 "PlannedTablesModel" lev kc ks) (he : mm_end E Γ (some .int) kc ks Post y_MD_readJoin.name) (hca : ca ≤ kc) (hsa : sa ≤ ks) (hw : mm_sh w) {x1 : Int32} {x2 : Int32} {x3 : Int32} (b0 : vp_in x2 4) (k1 : Post (some (.int (x1 + 3))) w (mm_up f 136 15 ((f 136 15) + (f 137 (x2).toNatClampNeg)))) : mm_go E Γ 4 113 [(0, mm_rf E 136), (1, .int x1), (2, .int x2), (3, .int x3)] [] w f ca sa := by
  refine mm_aload_n h d_MD_readJoin_113 0 rfl rfl ?_
  refine mm_aload_n h d_MD_readJoin_114 0 rfl rfl ?_
  refine mm_geti h fl_MD_95 rfl (is_MO hw) d_MD_readJoin_115 ?_
  refine mm_aload_n h d_MD_readJoin_118 0 rfl rfl ?_
  refine mm_getr h fl_MD_7 rfl (is_MO hw) (rf_MO_columns hw) (is_Mcolumns hw).1.1 d_MD_readJoin_119 ?_
  refine mm_iload_n h d_MD_readJoin_122 2 rfl rfl ?_
  refine mm_iald h (is_Mcolumns hw) b0 d_MD_readJoin_123 ?_
  refine mm_iadd h d_MD_readJoin_124 ?_
  refine mm_puti h fl_MD_95 (Or.inl rfl) rfl rfl rfl (is_MO hw) d_MD_readJoin_125 ?_
  refine mm_iload_n h d_MD_readJoin_128 1 rfl rfl ?_
  refine mm_iconst (v := 3) h d_MD_readJoin_129 (by decide) ?_
  refine mm_iadd h d_MD_readJoin_130 ?_
  exact mm_iret h he rfl d_MD_readJoin_131 hca hsa k1
theorem d_MD_readStep_0 : decode b_MD_readStep 0 = .ok (.iload_n 1, 1) := by decide +kernel
theorem d_MD_readStep_1 : decode b_MD_readStep 1 = .ok (.tableswitch (166) (3) (9) #[(43), (102), (108), (114), (114), (136), (143)], 43) := by decide +kernel
theorem d_MD_readStep_44 : decode b_MD_readStep 44 = .ok (.aload_n 0, 1) := by decide +kernel
theorem d_MD_readStep_45 : decode b_MD_readStep 45 = .ok (.iload_n 2, 1) := by decide +kernel
theorem d_MD_readStep_46 : decode b_MD_readStep 46 = .ok (.aload_n 0, 1) := by decide +kernel
theorem d_MD_readStep_47 : decode b_MD_readStep 47 = .ok (.aload_n 0, 1) := by decide +kernel
theorem d_MD_readStep_48 : decode b_MD_readStep 48 = .ok (.iload_n 2, 1) := by decide +kernel
theorem d_MD_readStep_49 : decode b_MD_readStep 49 = .ok (.invokevirtual 88, 3) := by decide +kernel
theorem d_MD_readStep_52 : decode b_MD_readStep 52 = .ok (.invokevirtual 98, 3) := by decide +kernel
theorem d_MD_readStep_55 : decode b_MD_readStep 55 = .ok (.invokevirtual 91, 3) := by decide +kernel
theorem d_MD_readStep_58 : decode b_MD_readStep 58 = .ok (.aload_n 0, 1) := by decide +kernel
theorem d_MD_readStep_59 : decode b_MD_readStep 59 = .ok (.iload_n 2, 1) := by decide +kernel
theorem d_MD_readStep_60 : decode b_MD_readStep 60 = .ok (.iconst (1), 1) := by decide +kernel
theorem d_MD_readStep_61 : decode b_MD_readStep 61 = .ok (.iadd, 1) := by decide +kernel
theorem d_MD_readStep_62 : decode b_MD_readStep 62 = .ok (.aload_n 0, 1) := by decide +kernel
theorem d_MD_readStep_63 : decode b_MD_readStep 63 = .ok (.iload_n 2, 1) := by decide +kernel
theorem d_MD_readStep_64 : decode b_MD_readStep 64 = .ok (.iconst (1), 1) := by decide +kernel
theorem d_MD_readStep_65 : decode b_MD_readStep 65 = .ok (.iadd, 1) := by decide +kernel
theorem d_MD_readStep_66 : decode b_MD_readStep 66 = .ok (.invokevirtual 88, 3) := by decide +kernel
theorem d_MD_readStep_69 : decode b_MD_readStep 69 = .ok (.ifCond .lt (18), 3) := by decide +kernel
theorem d_MD_readStep_72 : decode b_MD_readStep 72 = .ok (.aload_n 0, 1) := by decide +kernel
theorem d_MD_readStep_73 : decode b_MD_readStep 73 = .ok (.iload_n 2, 1) := by decide +kernel
theorem d_MD_readStep_74 : decode b_MD_readStep 74 = .ok (.iconst (1), 1) := by decide +kernel
theorem d_MD_readStep_75 : decode b_MD_readStep 75 = .ok (.iadd, 1) := by decide +kernel
theorem d_MD_readStep_76 : decode b_MD_readStep 76 = .ok (.invokevirtual 88, 3) := by decide +kernel
theorem d_MD_readStep_79 : decode b_MD_readStep 79 = .ok (.iconst (5), 1) := by decide +kernel
theorem d_MD_readStep_80 : decode b_MD_readStep 80 = .ok (.if_icmp .gt (7), 3) := by decide +kernel
theorem d_MD_readStep_83 : decode b_MD_readStep 83 = .ok (.iconst (1), 1) := by decide +kernel
theorem d_MD_readStep_84 : decode b_MD_readStep 84 = .ok (.goto (4), 3) := by decide +kernel
theorem d_MD_readStep_87 : decode b_MD_readStep 87 = .ok (.iconst (0), 1) := by decide +kernel
theorem d_MD_readStep_88 : decode b_MD_readStep 88 = .ok (.invokevirtual 91, 3) := by decide +kernel
theorem d_MD_readStep_91 : decode b_MD_readStep 91 = .ok (.aload_n 0, 1) := by decide +kernel
theorem d_MD_readStep_92 : decode b_MD_readStep 92 = .ok (.iload_n 2, 1) := by decide +kernel
theorem d_MD_readStep_93 : decode b_MD_readStep 93 = .ok (.iconst (2), 1) := by decide +kernel
theorem d_MD_readStep_94 : decode b_MD_readStep 94 = .ok (.iadd, 1) := by decide +kernel
theorem d_MD_readStep_95 : decode b_MD_readStep 95 = .ok (.iconst (1), 1) := by decide +kernel
theorem d_MD_readStep_96 : decode b_MD_readStep 96 = .ok (.invokevirtual 91, 3) := by decide +kernel
theorem d_MD_readStep_99 : decode b_MD_readStep 99 = .ok (.iload_n 2, 1) := by decide +kernel
theorem d_MD_readStep_100 : decode b_MD_readStep 100 = .ok (.iconst (3), 1) := by decide +kernel
theorem d_MD_readStep_101 : decode b_MD_readStep 101 = .ok (.iadd, 1) := by decide +kernel
theorem d_MD_readStep_102 : decode b_MD_readStep 102 = .ok (.ireturn, 1) := by decide +kernel
theorem d_MD_readStep_103 : decode b_MD_readStep 103 = .ok (.aload_n 0, 1) := by decide +kernel
theorem d_MD_readStep_104 : decode b_MD_readStep 104 = .ok (.iload_n 2, 1) := by decide +kernel
theorem d_MD_readStep_105 : decode b_MD_readStep 105 = .ok (.invokevirtual 101, 3) := by decide +kernel
theorem d_MD_readStep_108 : decode b_MD_readStep 108 = .ok (.ireturn, 1) := by decide +kernel
theorem d_MD_readStep_109 : decode b_MD_readStep 109 = .ok (.aload_n 0, 1) := by decide +kernel
theorem d_MD_readStep_110 : decode b_MD_readStep 110 = .ok (.iload_n 2, 1) := by decide +kernel
theorem d_MD_readStep_111 : decode b_MD_readStep 111 = .ok (.invokevirtual 104, 3) := by decide +kernel
theorem d_MD_readStep_114 : decode b_MD_readStep 114 = .ok (.ireturn, 1) := by decide +kernel
theorem d_MD_readStep_115 : decode b_MD_readStep 115 = .ok (.aload_n 0, 1) := by decide +kernel
theorem d_MD_readStep_116 : decode b_MD_readStep 116 = .ok (.iload_n 2, 1) := by decide +kernel
theorem d_MD_readStep_117 : decode b_MD_readStep 117 = .ok (.aload_n 0, 1) := by decide +kernel
theorem d_MD_readStep_118 : decode b_MD_readStep 118 = .ok (.iload_n 2, 1) := by decide +kernel
theorem d_MD_readStep_119 : decode b_MD_readStep 119 = .ok (.invokevirtual 88, 3) := by decide +kernel
theorem d_MD_readStep_122 : decode b_MD_readStep 122 = .ok (.ifCond .lt (7), 3) := by decide +kernel
theorem d_MD_readStep_125 : decode b_MD_readStep 125 = .ok (.iconst (1), 1) := by decide +kernel
theorem d_MD_readStep_126 : decode b_MD_readStep 126 = .ok (.goto (4), 3) := by decide +kernel
theorem d_MD_readStep_129 : decode b_MD_readStep 129 = .ok (.iconst (0), 1) := by decide +kernel
theorem d_MD_readStep_130 : decode b_MD_readStep 130 = .ok (.invokevirtual 91, 3) := by decide +kernel
theorem d_MD_readStep_133 : decode b_MD_readStep 133 = .ok (.iload_n 2, 1) := by decide +kernel
theorem d_MD_readStep_134 : decode b_MD_readStep 134 = .ok (.iconst (1), 1) := by decide +kernel
theorem d_MD_readStep_135 : decode b_MD_readStep 135 = .ok (.iadd, 1) := by decide +kernel
theorem d_MD_readStep_136 : decode b_MD_readStep 136 = .ok (.ireturn, 1) := by decide +kernel
theorem d_MD_readStep_137 : decode b_MD_readStep 137 = .ok (.aload_n 0, 1) := by decide +kernel
theorem d_MD_readStep_138 : decode b_MD_readStep 138 = .ok (.iconst (1), 1) := by decide +kernel
theorem d_MD_readStep_139 : decode b_MD_readStep 139 = .ok (.putfield 95, 3) := by decide +kernel
theorem d_MD_readStep_142 : decode b_MD_readStep 142 = .ok (.iload_n 2, 1) := by decide +kernel
theorem d_MD_readStep_143 : decode b_MD_readStep 143 = .ok (.ireturn, 1) := by decide +kernel
theorem d_MD_readStep_144 : decode b_MD_readStep 144 = .ok (.aload_n 0, 1) := by decide +kernel
theorem d_MD_readStep_145 : decode b_MD_readStep 145 = .ok (.iload_n 2, 1) := by decide +kernel
theorem d_MD_readStep_146 : decode b_MD_readStep 146 = .ok (.aload_n 0, 1) := by decide +kernel
theorem d_MD_readStep_147 : decode b_MD_readStep 147 = .ok (.aload_n 0, 1) := by decide +kernel
theorem d_MD_readStep_148 : decode b_MD_readStep 148 = .ok (.iload_n 2, 1) := by decide +kernel
theorem d_MD_readStep_149 : decode b_MD_readStep 149 = .ok (.invokevirtual 88, 3) := by decide +kernel
theorem d_MD_readStep_152 : decode b_MD_readStep 152 = .ok (.invokevirtual 98, 3) := by decide +kernel
theorem d_MD_readStep_155 : decode b_MD_readStep 155 = .ok (.invokevirtual 91, 3) := by decide +kernel
theorem d_MD_readStep_158 : decode b_MD_readStep 158 = .ok (.aload_n 0, 1) := by decide +kernel
theorem d_MD_readStep_159 : decode b_MD_readStep 159 = .ok (.iconst (1), 1) := by decide +kernel
theorem d_MD_readStep_160 : decode b_MD_readStep 160 = .ok (.putfield 95, 3) := by decide +kernel
theorem d_MD_readStep_163 : decode b_MD_readStep 163 = .ok (.iload_n 2, 1) := by decide +kernel
theorem d_MD_readStep_164 : decode b_MD_readStep 164 = .ok (.iconst (1), 1) := by decide +kernel
theorem d_MD_readStep_165 : decode b_MD_readStep 165 = .ok (.iadd, 1) := by decide +kernel
theorem d_MD_readStep_166 : decode b_MD_readStep 166 = .ok (.ireturn, 1) := by decide +kernel
theorem d_MD_readStep_167 : decode b_MD_readStep 167 = .ok (.aload_n 0, 1) := by decide +kernel
theorem d_MD_readStep_168 : decode b_MD_readStep 168 = .ok (.iload_n 2, 1) := by decide +kernel
theorem d_MD_readStep_169 : decode b_MD_readStep 169 = .ok (.aload_n 0, 1) := by decide +kernel
theorem d_MD_readStep_170 : decode b_MD_readStep 170 = .ok (.aload_n 0, 1) := by decide +kernel
theorem d_MD_readStep_171 : decode b_MD_readStep 171 = .ok (.iload_n 2, 1) := by decide +kernel
theorem d_MD_readStep_172 : decode b_MD_readStep 172 = .ok (.invokevirtual 88, 3) := by decide +kernel
theorem d_MD_readStep_175 : decode b_MD_readStep 175 = .ok (.invokevirtual 98, 3) := by decide +kernel
theorem d_MD_readStep_178 : decode b_MD_readStep 178 = .ok (.invokevirtual 91, 3) := by decide +kernel
theorem d_MD_readStep_181 : decode b_MD_readStep 181 = .ok (.aload_n 0, 1) := by decide +kernel
theorem d_MD_readStep_182 : decode b_MD_readStep 182 = .ok (.iconst (2), 1) := by decide +kernel
theorem d_MD_readStep_183 : decode b_MD_readStep 183 = .ok (.putfield 95, 3) := by decide +kernel
theorem d_MD_readStep_186 : decode b_MD_readStep 186 = .ok (.iload_n 2, 1) := by decide +kernel
theorem d_MD_readStep_187 : decode b_MD_readStep 187 = .ok (.iconst (1), 1) := by decide +kernel
theorem d_MD_readStep_188 : decode b_MD_readStep 188 = .ok (.iadd, 1) := by decide +kernel
theorem d_MD_readStep_189 : decode b_MD_readStep 189 = .ok (.ireturn, 1) := by decide +kernel
theorem s_MD_readStep_0 {E : mm_E} {Γ : mm_G} {lev kc ks ca sa : Nat} {w : mm_W} {f : mm_F} (h : mm_ok E Γ b_MD_readStep 3 "PlannedTablesModel" lev kc ks) (hw : mm_sh w) {x1 : Int32} {x2 : Int32} (k0 : x1 = 3 → mm_go E Γ 3 44 [(0, mm_rf E 136), (1, .int x1), (2, .int x2)] [] w f ca sa) (k1 : ¬ x1 = 3 → x1 = 4 → mm_go E Γ 3 103 [(0, mm_rf E 136), (1, .int x1), (2, .int x2)] [] w f ca sa) (k2 : ¬ x1 = 3 → ¬ x1 = 4 → x1 = 5 → mm_go E Γ 3 109 [(0, mm_rf E 136), (1, .int x1), (2, .int x2)] [] w f ca sa) (k3 : ¬ x1 = 3 → ¬ x1 = 4 → ¬ x1 = 5 → x1 = 6 → mm_go E Γ 3 115 [(0, mm_rf E 136), (1, .int x1), (2, .int x2)] [] w f ca sa) (k4 : ¬ x1 = 3 → ¬ x1 = 4 → ¬ x1 = 5 → ¬ x1 = 6 → x1 = 7 → mm_go E Γ 3 115 [(0, mm_rf E 136), (1, .int x1), (2, .int x2)] [] w f ca sa) (k5 : ¬ x1 = 3 → ¬ x1 = 4 → ¬ x1 = 5 → ¬ x1 = 6 → ¬ x1 = 7 → x1 = 8 → mm_go E Γ 3 137 [(0, mm_rf E 136), (1, .int x1), (2, .int x2)] [] w f ca sa) (k6 : ¬ x1 = 3 → ¬ x1 = 4 → ¬ x1 = 5 → ¬ x1 = 6 → ¬ x1 = 7 → ¬ x1 = 8 → x1 = 9 → mm_go E Γ 3 144 [(0, mm_rf E 136), (1, .int x1), (2, .int x2)] [] w f ca sa) (k7 : ¬ x1 = 3 → ¬ x1 = 4 → ¬ x1 = 5 → ¬ x1 = 6 → ¬ x1 = 7 → ¬ x1 = 8 → ¬ x1 = 9 → mm_go E Γ 3 167 [(0, mm_rf E 136), (1, .int x1), (2, .int x2)] [] w f ca sa) : mm_go E Γ 3 0 [(0, mm_rf E 136), (1, .int x1), (2, .int x2)] [] w f ca sa := by
  refine mm_iload_n h d_MD_readStep_0 1 rfl rfl ?_
  by_cases c1 : x1 = 3
  · refine mm_tin h d_MD_readStep_1 (by rw [c1]; decide) (by rw [c1]; decide) (off := 43) (by rw [c1]; rfl) (tgt := 44) (by decide) ?_
    exact (k0 c1)
  by_cases c2 : x1 = 4
  · refine mm_tin h d_MD_readStep_1 (by rw [c2]; decide) (by rw [c2]; decide) (off := 102) (by rw [c2]; rfl) (tgt := 103) (by decide) ?_
    exact (k1 c1 c2)
  by_cases c3 : x1 = 5
  · refine mm_tin h d_MD_readStep_1 (by rw [c3]; decide) (by rw [c3]; decide) (off := 108) (by rw [c3]; rfl) (tgt := 109) (by decide) ?_
    exact (k2 c1 c2 c3)
  by_cases c4 : x1 = 6
  · refine mm_tin h d_MD_readStep_1 (by rw [c4]; decide) (by rw [c4]; decide) (off := 114) (by rw [c4]; rfl) (tgt := 115) (by decide) ?_
    exact (k3 c1 c2 c3 c4)
  by_cases c5 : x1 = 7
  · refine mm_tin h d_MD_readStep_1 (by rw [c5]; decide) (by rw [c5]; decide) (off := 114) (by rw [c5]; rfl) (tgt := 115) (by decide) ?_
    exact (k4 c1 c2 c3 c4 c5)
  by_cases c6 : x1 = 8
  · refine mm_tin h d_MD_readStep_1 (by rw [c6]; decide) (by rw [c6]; decide) (off := 136) (by rw [c6]; rfl) (tgt := 137) (by decide) ?_
    exact (k5 c1 c2 c3 c4 c5 c6)
  by_cases c7 : x1 = 9
  · refine mm_tin h d_MD_readStep_1 (by rw [c7]; decide) (by rw [c7]; decide) (off := 143) (by rw [c7]; rfl) (tgt := 144) (by decide) ?_
    exact (k6 c1 c2 c3 c4 c5 c6 c7)
  refine mm_tout h d_MD_readStep_1 (by have q0 := mm_ne 3 3 (by decide) c1; have q1 := mm_ne 4 4 (by decide) c2; have q2 := mm_ne 5 5 (by decide) c3; have q3 := mm_ne 6 6 (by decide) c4; have q4 := mm_ne 7 7 (by decide) c5; have q5 := mm_ne 8 8 (by decide) c6; have q6 := mm_ne 9 9 (by decide) c7; omega) (tgt := 167) (by decide) ?_
  exact (k7 c1 c2 c3 c4 c5 c6 c7)
theorem s_MD_readStep_44 {E : mm_E} {Γ : mm_G} {lev kc ks ca sa : Nat} {w : mm_W} {f : mm_F} (h : mm_ok E Γ b_MD_readStep 3 "PlannedTablesModel" lev kc ks) (hw : mm_sh w) {x1 : Int32} {x2 : Int32} {vl0 vc0 vs0 : Nat} {P0 : Option Value → mm_W → mm_F → Prop} (hl0 : vl0 < lev) (hu0 : ca + vc0 ≤ kc) (hz0 : sa + vs0 ≤ ks) (m0 : mm_C E y_MD_wordAt b_MD_wordAt 2 (some .int) vl0 vc0 vs0 [mm_rf E 136, .int x2] w f P0) (k1 : ∀ (r : Option Value) (w1 : mm_W) (f1 : mm_F), P0 r w1 f1 → mm_go E Γ 3 52 [(0, mm_rf E 136), (1, .int x1), (2, .int x2)] (r.toList ++ [mm_rf E 136, .int x2, mm_rf E 136]) w1 f1 (ca + vc0) (sa + vs0)) : mm_go E Γ 3 44 [(0, mm_rf E 136), (1, .int x1), (2, .int x2)] [] w f ca sa := by
  refine mm_aload_n h d_MD_readStep_44 0 rfl rfl ?_
  refine mm_iload_n h d_MD_readStep_45 2 rfl rfl ?_
  refine mm_aload_n h d_MD_readStep_46 0 rfl rfl ?_
  refine mm_aload_n h d_MD_readStep_47 0 rfl rfl ?_
  refine mm_iload_n h d_MD_readStep_48 2 rfl rfl ?_
  exact mm_callV (As := [.int x2]) (rest := [mm_rf E 136, .int x2, mm_rf E 136]) h m0 cv_MD_88 cm_MD_wordAt hl0 (q0 := _) rfl rfl (is_MO hw) hu0 hz0 rfl rfl (Nat.le_of_ble_eq_true rfl) d_MD_readStep_49 (fun r w1 f1 hp => k1 r w1 f1 hp)
theorem s_MD_readStep_52 {E : mm_E} {Γ : mm_G} {lev kc ks ca sa : Nat} {w : mm_W} {f : mm_F} (h : mm_ok E Γ b_MD_readStep 3 "PlannedTablesModel" lev kc ks) (hw : mm_sh w) {x1 : Int32} {x2 : Int32} {xk1 : Int32} {xk3 : Int32} {vl0 vc0 vs0 : Nat} {P0 : Option Value → mm_W → mm_F → Prop} (hl0 : vl0 < lev) (hu0 : ca + vc0 ≤ kc) (hz0 : sa + vs0 ≤ ks) (m0 : mm_C E y_MD_isCell b_MD_isCell 2 (some .boolean) vl0 vc0 vs0 [mm_rf E 136, .int xk3] w f P0) (k1 : ∀ (r : Option Value) (w1 : mm_W) (f1 : mm_F), P0 r w1 f1 → mm_go E Γ 3 55 [(0, mm_rf E 136), (1, .int x1), (2, .int x2)] (r.toList ++ [.int xk1, mm_rf E 136]) w1 f1 (ca + vc0) (sa + vs0)) : mm_go E Γ 3 52 [(0, mm_rf E 136), (1, .int x1), (2, .int x2)] [.int xk3, mm_rf E 136, .int xk1, mm_rf E 136] w f ca sa := by
  exact mm_callV (As := [.int xk3]) (rest := [.int xk1, mm_rf E 136]) h m0 cv_MD_98 cm_MD_isCell hl0 (q0 := _) rfl rfl (is_MO hw) hu0 hz0 rfl rfl (Nat.le_of_ble_eq_true rfl) d_MD_readStep_52 (fun r w1 f1 hp => k1 r w1 f1 hp)
theorem s_MD_readStep_55 {E : mm_E} {Γ : mm_G} {lev kc ks ca sa : Nat} {w : mm_W} {f : mm_F} (h : mm_ok E Γ b_MD_readStep 3 "PlannedTablesModel" lev kc ks) (hw : mm_sh w) {x1 : Int32} {x2 : Int32} {xk1 : Int32} {xk2 : Int32} {vl0 vc0 vs0 : Nat} {P0 : Option Value → mm_W → mm_F → Prop} (hl0 : vl0 < lev) (hu0 : ca + vc0 ≤ kc) (hz0 : sa + vs0 ≤ ks) (m0 : mm_C E y_MD_demand b_MD_demand 3 none vl0 vc0 vs0 [mm_rf E 136, .int xk1, .int xk2] w f P0) (k1 : ∀ (r : Option Value) (w1 : mm_W) (f1 : mm_F), P0 r w1 f1 → mm_go E Γ 3 58 [(0, mm_rf E 136), (1, .int x1), (2, .int x2)] (r.toList ++ []) w1 f1 (ca + vc0) (sa + vs0)) : mm_go E Γ 3 55 [(0, mm_rf E 136), (1, .int x1), (2, .int x2)] [.int xk2, .int xk1, mm_rf E 136] w f ca sa := by
  exact mm_callV (As := [.int xk1, .int xk2]) (rest := []) h m0 cv_MD_91 cm_MD_demand hl0 (q0 := _) rfl rfl (is_MO hw) hu0 hz0 rfl rfl (Nat.le_of_ble_eq_true rfl) d_MD_readStep_55 (fun r w1 f1 hp => k1 r w1 f1 hp)
theorem s_MD_readStep_58 {E : mm_E} {Γ : mm_G} {lev kc ks ca sa : Nat} {w : mm_W} {f : mm_F} (h : mm_ok E Γ b_MD_readStep 3 "PlannedTablesModel" lev kc ks) (hw : mm_sh w) {x1 : Int32} {x2 : Int32} {vl0 vc0 vs0 : Nat} {P0 : Option Value → mm_W → mm_F → Prop} (hl0 : vl0 < lev) (hu0 : ca + vc0 ≤ kc) (hz0 : sa + vs0 ≤ ks) (m0 : mm_C E y_MD_wordAt b_MD_wordAt 2 (some .int) vl0 vc0 vs0 [mm_rf E 136, .int (x2 + 1)] w f P0) (k1 : ∀ (r : Option Value) (w1 : mm_W) (f1 : mm_F), P0 r w1 f1 → mm_go E Γ 3 69 [(0, mm_rf E 136), (1, .int x1), (2, .int x2)] (r.toList ++ [.int (x2 + 1), mm_rf E 136]) w1 f1 (ca + vc0) (sa + vs0)) : mm_go E Γ 3 58 [(0, mm_rf E 136), (1, .int x1), (2, .int x2)] [] w f ca sa := by
  refine mm_aload_n h d_MD_readStep_58 0 rfl rfl ?_
  refine mm_iload_n h d_MD_readStep_59 2 rfl rfl ?_
  refine mm_iconst (v := 1) h d_MD_readStep_60 (by decide) ?_
  refine mm_iadd h d_MD_readStep_61 ?_
  refine mm_aload_n h d_MD_readStep_62 0 rfl rfl ?_
  refine mm_iload_n h d_MD_readStep_63 2 rfl rfl ?_
  refine mm_iconst (v := 1) h d_MD_readStep_64 (by decide) ?_
  refine mm_iadd h d_MD_readStep_65 ?_
  exact mm_callV (As := [.int (x2 + 1)]) (rest := [.int (x2 + 1), mm_rf E 136]) h m0 cv_MD_88 cm_MD_wordAt hl0 (q0 := _) rfl rfl (is_MO hw) hu0 hz0 rfl rfl (Nat.le_of_ble_eq_true rfl) d_MD_readStep_66 (fun r w1 f1 hp => k1 r w1 f1 hp)
theorem s_MD_readStep_69 {E : mm_E} {Γ : mm_G} {lev kc ks ca sa : Nat} {w : mm_W} {f : mm_F} (h : mm_ok E Γ b_MD_readStep 3 "PlannedTablesModel" lev kc ks) (hw : mm_sh w) {x1 : Int32} {x2 : Int32} {xk1 : Int32} {xk2 : Int32} (k0 : xk2 < 0 → mm_go E Γ 3 87 [(0, mm_rf E 136), (1, .int x1), (2, .int x2)] [.int xk1, mm_rf E 136] w f ca sa) {vl0 vc0 vs0 : Nat} {P0 : Option Value → mm_W → mm_F → Prop} (hl0 : vl0 < lev) (hu0 : ca + vc0 ≤ kc) (hz0 : sa + vs0 ≤ ks) (m1 : ¬ xk2 < 0 → mm_C E y_MD_wordAt b_MD_wordAt 2 (some .int) vl0 vc0 vs0 [mm_rf E 136, .int (x2 + 1)] w f P0) (k2 : ¬ xk2 < 0 → ∀ (r : Option Value) (w1 : mm_W) (f1 : mm_F), P0 r w1 f1 → mm_go E Γ 3 79 [(0, mm_rf E 136), (1, .int x1), (2, .int x2)] (r.toList ++ [.int xk1, mm_rf E 136]) w1 f1 (ca + vc0) (sa + vs0)) : mm_go E Γ 3 69 [(0, mm_rf E 136), (1, .int x1), (2, .int x2)] [.int xk2, .int xk1, mm_rf E 136] w f ca sa := by
  refine mm_if_lt h d_MD_readStep_69 (tgt := 87) (by decide) (fun c1 => ?_) (fun c1 => ?_)
  · skip
    exact (k0 c1)
  · skip
    refine mm_aload_n h d_MD_readStep_72 0 rfl rfl ?_
    refine mm_iload_n h d_MD_readStep_73 2 rfl rfl ?_
    refine mm_iconst (v := 1) h d_MD_readStep_74 (by decide) ?_
    refine mm_iadd h d_MD_readStep_75 ?_
    exact mm_callV (As := [.int (x2 + 1)]) (rest := [.int xk1, mm_rf E 136]) h (m1 c1) cv_MD_88 cm_MD_wordAt hl0 (q0 := _) rfl rfl (is_MO hw) hu0 hz0 rfl rfl (Nat.le_of_ble_eq_true rfl) d_MD_readStep_76 (fun r w1 f1 hp => (k2 c1) r w1 f1 hp)
theorem s_MD_readStep_79 {E : mm_E} {Γ : mm_G} {lev kc ks ca sa : Nat} {w : mm_W} {f : mm_F} (h : mm_ok E Γ b_MD_readStep 3 "PlannedTablesModel" lev kc ks) (hw : mm_sh w) {x1 : Int32} {x2 : Int32} {xk1 : Int32} {xk2 : Int32} (k0 : 5 < xk2 → mm_go E Γ 3 87 [(0, mm_rf E 136), (1, .int x1), (2, .int x2)] [.int xk1, mm_rf E 136] w f ca sa) (k1 : ¬ 5 < xk2 → mm_go E Γ 3 88 [(0, mm_rf E 136), (1, .int x1), (2, .int x2)] [.int 1, .int xk1, mm_rf E 136] w f ca sa) : mm_go E Γ 3 79 [(0, mm_rf E 136), (1, .int x1), (2, .int x2)] [.int xk2, .int xk1, mm_rf E 136] w f ca sa := by
  refine mm_iconst (v := 5) h d_MD_readStep_79 (by decide) ?_
  refine mm_icmp_gt h d_MD_readStep_80 (tgt := 87) (by decide) (fun c1 => ?_) (fun c1 => ?_)
  · skip
    exact (k0 c1)
  · skip
    refine mm_iconst (v := 1) h d_MD_readStep_83 (by decide) ?_
    refine mm_goto h d_MD_readStep_84 (tgt := 88) (by decide) ?_
    exact (k1 c1)
theorem s_MD_readStep_87 {E : mm_E} {Γ : mm_G} {lev kc ks ca sa : Nat} {w : mm_W} {f : mm_F} (h : mm_ok E Γ b_MD_readStep 3 "PlannedTablesModel" lev kc ks) (hw : mm_sh w) {x1 : Int32} {x2 : Int32} {xk1 : Int32} (k0 : mm_go E Γ 3 88 [(0, mm_rf E 136), (1, .int x1), (2, .int x2)] [.int 0, .int xk1, mm_rf E 136] w f ca sa) : mm_go E Γ 3 87 [(0, mm_rf E 136), (1, .int x1), (2, .int x2)] [.int xk1, mm_rf E 136] w f ca sa := by
  refine mm_iconst (v := 0) h d_MD_readStep_87 (by decide) ?_
  exact k0
theorem s_MD_readStep_88 {E : mm_E} {Γ : mm_G} {lev kc ks ca sa : Nat} {w : mm_W} {f : mm_F} (h : mm_ok E Γ b_MD_readStep 3 "PlannedTablesModel" lev kc ks) (hw : mm_sh w) {x1 : Int32} {x2 : Int32} {xk1 : Int32} {xk2 : Int32} {vl0 vc0 vs0 : Nat} {P0 : Option Value → mm_W → mm_F → Prop} (hl0 : vl0 < lev) (hu0 : ca + vc0 ≤ kc) (hz0 : sa + vs0 ≤ ks) (m0 : mm_C E y_MD_demand b_MD_demand 3 none vl0 vc0 vs0 [mm_rf E 136, .int xk1, .int xk2] w f P0) (k1 : ∀ (r : Option Value) (w1 : mm_W) (f1 : mm_F), P0 r w1 f1 → mm_go E Γ 3 91 [(0, mm_rf E 136), (1, .int x1), (2, .int x2)] (r.toList ++ []) w1 f1 (ca + vc0) (sa + vs0)) : mm_go E Γ 3 88 [(0, mm_rf E 136), (1, .int x1), (2, .int x2)] [.int xk2, .int xk1, mm_rf E 136] w f ca sa := by
  exact mm_callV (As := [.int xk1, .int xk2]) (rest := []) h m0 cv_MD_91 cm_MD_demand hl0 (q0 := _) rfl rfl (is_MO hw) hu0 hz0 rfl rfl (Nat.le_of_ble_eq_true rfl) d_MD_readStep_88 (fun r w1 f1 hp => k1 r w1 f1 hp)
theorem s_MD_readStep_91 {E : mm_E} {Γ : mm_G} {lev kc ks ca sa : Nat} {w : mm_W} {f : mm_F} (h : mm_ok E Γ b_MD_readStep 3 "PlannedTablesModel" lev kc ks) (hw : mm_sh w) {x1 : Int32} {x2 : Int32} {vl0 vc0 vs0 : Nat} {P0 : Option Value → mm_W → mm_F → Prop} (hl0 : vl0 < lev) (hu0 : ca + vc0 ≤ kc) (hz0 : sa + vs0 ≤ ks) (m0 : mm_C E y_MD_demand b_MD_demand 3 none vl0 vc0 vs0 [mm_rf E 136, .int (x2 + 2), .int 1] w f P0) (k1 : ∀ (r : Option Value) (w1 : mm_W) (f1 : mm_F), P0 r w1 f1 → mm_go E Γ 3 99 [(0, mm_rf E 136), (1, .int x1), (2, .int x2)] (r.toList ++ []) w1 f1 (ca + vc0) (sa + vs0)) : mm_go E Γ 3 91 [(0, mm_rf E 136), (1, .int x1), (2, .int x2)] [] w f ca sa := by
  refine mm_aload_n h d_MD_readStep_91 0 rfl rfl ?_
  refine mm_iload_n h d_MD_readStep_92 2 rfl rfl ?_
  refine mm_iconst (v := 2) h d_MD_readStep_93 (by decide) ?_
  refine mm_iadd h d_MD_readStep_94 ?_
  refine mm_iconst (v := 1) h d_MD_readStep_95 (by decide) ?_
  exact mm_callV (As := [.int (x2 + 2), .int 1]) (rest := []) h m0 cv_MD_91 cm_MD_demand hl0 (q0 := _) rfl rfl (is_MO hw) hu0 hz0 rfl rfl (Nat.le_of_ble_eq_true rfl) d_MD_readStep_96 (fun r w1 f1 hp => k1 r w1 f1 hp)
theorem s_MD_readStep_99 {E : mm_E} {Γ : mm_G} {lev kc ks ca sa : Nat} {w : mm_W} {f : mm_F} {Post : Option Value → mm_W → mm_F → Prop} (h : mm_ok E Γ b_MD_readStep 3 "PlannedTablesModel" lev kc ks) (he : mm_end E Γ (some .int) kc ks Post y_MD_readStep.name) (hca : ca ≤ kc) (hsa : sa ≤ ks) (hw : mm_sh w) {x1 : Int32} {x2 : Int32} (k0 : Post (some (.int (x2 + 3))) w f) : mm_go E Γ 3 99 [(0, mm_rf E 136), (1, .int x1), (2, .int x2)] [] w f ca sa := by
  refine mm_iload_n h d_MD_readStep_99 2 rfl rfl ?_
  refine mm_iconst (v := 3) h d_MD_readStep_100 (by decide) ?_
  refine mm_iadd h d_MD_readStep_101 ?_
  exact mm_iret h he rfl d_MD_readStep_102 hca hsa k0
theorem s_MD_readStep_103 {E : mm_E} {Γ : mm_G} {lev kc ks ca sa : Nat} {w : mm_W} {f : mm_F} (h : mm_ok E Γ b_MD_readStep 3 "PlannedTablesModel" lev kc ks) (hw : mm_sh w) {x1 : Int32} {x2 : Int32} {vl0 vc0 vs0 : Nat} {P0 : Option Value → mm_W → mm_F → Prop} (hl0 : vl0 < lev) (hu0 : ca + vc0 ≤ kc) (hz0 : sa + vs0 ≤ ks) (m0 : mm_C E y_MD_readCells b_MD_readCells 4 (some .int) vl0 vc0 vs0 [mm_rf E 136, .int x2] w f P0) (k1 : ∀ (r : Option Value) (w1 : mm_W) (f1 : mm_F), P0 r w1 f1 → mm_go E Γ 3 108 [(0, mm_rf E 136), (1, .int x1), (2, .int x2)] (r.toList ++ []) w1 f1 (ca + vc0) (sa + vs0)) : mm_go E Γ 3 103 [(0, mm_rf E 136), (1, .int x1), (2, .int x2)] [] w f ca sa := by
  refine mm_aload_n h d_MD_readStep_103 0 rfl rfl ?_
  refine mm_iload_n h d_MD_readStep_104 2 rfl rfl ?_
  exact mm_callV (As := [.int x2]) (rest := []) h m0 cv_MD_101 cm_MD_readCells hl0 (q0 := _) rfl rfl (is_MO hw) hu0 hz0 rfl rfl (Nat.le_of_ble_eq_true rfl) d_MD_readStep_105 (fun r w1 f1 hp => k1 r w1 f1 hp)
theorem s_MD_readStep_108 {E : mm_E} {Γ : mm_G} {lev kc ks ca sa : Nat} {w : mm_W} {f : mm_F} {Post : Option Value → mm_W → mm_F → Prop} (h : mm_ok E Γ b_MD_readStep 3 "PlannedTablesModel" lev kc ks) (he : mm_end E Γ (some .int) kc ks Post y_MD_readStep.name) (hca : ca ≤ kc) (hsa : sa ≤ ks) (hw : mm_sh w) {x1 : Int32} {x2 : Int32} {xk0 : Int32} (k0 : Post (some (.int xk0)) w f) : mm_go E Γ 3 108 [(0, mm_rf E 136), (1, .int x1), (2, .int x2)] [.int xk0] w f ca sa := by
  exact mm_iret h he rfl d_MD_readStep_108 hca hsa k0
theorem s_MD_readStep_109 {E : mm_E} {Γ : mm_G} {lev kc ks ca sa : Nat} {w : mm_W} {f : mm_F} (h : mm_ok E Γ b_MD_readStep 3 "PlannedTablesModel" lev kc ks) (hw : mm_sh w) {x1 : Int32} {x2 : Int32} {vl0 vc0 vs0 : Nat} {P0 : Option Value → mm_W → mm_F → Prop} (hl0 : vl0 < lev) (hu0 : ca + vc0 ≤ kc) (hz0 : sa + vs0 ≤ ks) (m0 : mm_C E y_MD_readJoin b_MD_readJoin 4 (some .int) vl0 vc0 vs0 [mm_rf E 136, .int x2] w f P0) (k1 : ∀ (r : Option Value) (w1 : mm_W) (f1 : mm_F), P0 r w1 f1 → mm_go E Γ 3 114 [(0, mm_rf E 136), (1, .int x1), (2, .int x2)] (r.toList ++ []) w1 f1 (ca + vc0) (sa + vs0)) : mm_go E Γ 3 109 [(0, mm_rf E 136), (1, .int x1), (2, .int x2)] [] w f ca sa := by
  refine mm_aload_n h d_MD_readStep_109 0 rfl rfl ?_
  refine mm_iload_n h d_MD_readStep_110 2 rfl rfl ?_
  exact mm_callV (As := [.int x2]) (rest := []) h m0 cv_MD_104 cm_MD_readJoin hl0 (q0 := _) rfl rfl (is_MO hw) hu0 hz0 rfl rfl (Nat.le_of_ble_eq_true rfl) d_MD_readStep_111 (fun r w1 f1 hp => k1 r w1 f1 hp)
theorem s_MD_readStep_114 {E : mm_E} {Γ : mm_G} {lev kc ks ca sa : Nat} {w : mm_W} {f : mm_F} {Post : Option Value → mm_W → mm_F → Prop} (h : mm_ok E Γ b_MD_readStep 3 "PlannedTablesModel" lev kc ks) (he : mm_end E Γ (some .int) kc ks Post y_MD_readStep.name) (hca : ca ≤ kc) (hsa : sa ≤ ks) (hw : mm_sh w) {x1 : Int32} {x2 : Int32} {xk0 : Int32} (k0 : Post (some (.int xk0)) w f) : mm_go E Γ 3 114 [(0, mm_rf E 136), (1, .int x1), (2, .int x2)] [.int xk0] w f ca sa := by
  exact mm_iret h he rfl d_MD_readStep_114 hca hsa k0
theorem s_MD_readStep_115 {E : mm_E} {Γ : mm_G} {lev kc ks ca sa : Nat} {w : mm_W} {f : mm_F} (h : mm_ok E Γ b_MD_readStep 3 "PlannedTablesModel" lev kc ks) (hw : mm_sh w) {x1 : Int32} {x2 : Int32} {vl0 vc0 vs0 : Nat} {P0 : Option Value → mm_W → mm_F → Prop} (hl0 : vl0 < lev) (hu0 : ca + vc0 ≤ kc) (hz0 : sa + vs0 ≤ ks) (m0 : mm_C E y_MD_wordAt b_MD_wordAt 2 (some .int) vl0 vc0 vs0 [mm_rf E 136, .int x2] w f P0) (k1 : ∀ (r : Option Value) (w1 : mm_W) (f1 : mm_F), P0 r w1 f1 → mm_go E Γ 3 122 [(0, mm_rf E 136), (1, .int x1), (2, .int x2)] (r.toList ++ [.int x2, mm_rf E 136]) w1 f1 (ca + vc0) (sa + vs0)) : mm_go E Γ 3 115 [(0, mm_rf E 136), (1, .int x1), (2, .int x2)] [] w f ca sa := by
  refine mm_aload_n h d_MD_readStep_115 0 rfl rfl ?_
  refine mm_iload_n h d_MD_readStep_116 2 rfl rfl ?_
  refine mm_aload_n h d_MD_readStep_117 0 rfl rfl ?_
  refine mm_iload_n h d_MD_readStep_118 2 rfl rfl ?_
  exact mm_callV (As := [.int x2]) (rest := [.int x2, mm_rf E 136]) h m0 cv_MD_88 cm_MD_wordAt hl0 (q0 := _) rfl rfl (is_MO hw) hu0 hz0 rfl rfl (Nat.le_of_ble_eq_true rfl) d_MD_readStep_119 (fun r w1 f1 hp => k1 r w1 f1 hp)
theorem s_MD_readStep_122 {E : mm_E} {Γ : mm_G} {lev kc ks ca sa : Nat} {w : mm_W} {f : mm_F} (h : mm_ok E Γ b_MD_readStep 3 "PlannedTablesModel" lev kc ks) (hw : mm_sh w) {x1 : Int32} {x2 : Int32} {xk1 : Int32} {xk2 : Int32} (k0 : xk2 < 0 → mm_go E Γ 3 130 [(0, mm_rf E 136), (1, .int x1), (2, .int x2)] [.int 0, .int xk1, mm_rf E 136] w f ca sa) (k1 : ¬ xk2 < 0 → mm_go E Γ 3 130 [(0, mm_rf E 136), (1, .int x1), (2, .int x2)] [.int 1, .int xk1, mm_rf E 136] w f ca sa) : mm_go E Γ 3 122 [(0, mm_rf E 136), (1, .int x1), (2, .int x2)] [.int xk2, .int xk1, mm_rf E 136] w f ca sa := by
  refine mm_if_lt h d_MD_readStep_122 (tgt := 129) (by decide) (fun c1 => ?_) (fun c1 => ?_)
  · skip
    refine mm_iconst (v := 0) h d_MD_readStep_129 (by decide) ?_
    exact (k0 c1)
  · skip
    refine mm_iconst (v := 1) h d_MD_readStep_125 (by decide) ?_
    refine mm_goto h d_MD_readStep_126 (tgt := 130) (by decide) ?_
    exact (k1 c1)
theorem s_MD_readStep_130 {E : mm_E} {Γ : mm_G} {lev kc ks ca sa : Nat} {w : mm_W} {f : mm_F} (h : mm_ok E Γ b_MD_readStep 3 "PlannedTablesModel" lev kc ks) (hw : mm_sh w) {x1 : Int32} {x2 : Int32} {xk1 : Int32} {xk2 : Int32} {vl0 vc0 vs0 : Nat} {P0 : Option Value → mm_W → mm_F → Prop} (hl0 : vl0 < lev) (hu0 : ca + vc0 ≤ kc) (hz0 : sa + vs0 ≤ ks) (m0 : mm_C E y_MD_demand b_MD_demand 3 none vl0 vc0 vs0 [mm_rf E 136, .int xk1, .int xk2] w f P0) (k1 : ∀ (r : Option Value) (w1 : mm_W) (f1 : mm_F), P0 r w1 f1 → mm_go E Γ 3 133 [(0, mm_rf E 136), (1, .int x1), (2, .int x2)] (r.toList ++ []) w1 f1 (ca + vc0) (sa + vs0)) : mm_go E Γ 3 130 [(0, mm_rf E 136), (1, .int x1), (2, .int x2)] [.int xk2, .int xk1, mm_rf E 136] w f ca sa := by
  exact mm_callV (As := [.int xk1, .int xk2]) (rest := []) h m0 cv_MD_91 cm_MD_demand hl0 (q0 := _) rfl rfl (is_MO hw) hu0 hz0 rfl rfl (Nat.le_of_ble_eq_true rfl) d_MD_readStep_130 (fun r w1 f1 hp => k1 r w1 f1 hp)
theorem s_MD_readStep_133 {E : mm_E} {Γ : mm_G} {lev kc ks ca sa : Nat} {w : mm_W} {f : mm_F} {Post : Option Value → mm_W → mm_F → Prop} (h : mm_ok E Γ b_MD_readStep 3 "PlannedTablesModel" lev kc ks) (he : mm_end E Γ (some .int) kc ks Post y_MD_readStep.name) (hca : ca ≤ kc) (hsa : sa ≤ ks) (hw : mm_sh w) {x1 : Int32} {x2 : Int32} (k0 : Post (some (.int (x2 + 1))) w f) : mm_go E Γ 3 133 [(0, mm_rf E 136), (1, .int x1), (2, .int x2)] [] w f ca sa := by
  refine mm_iload_n h d_MD_readStep_133 2 rfl rfl ?_
  refine mm_iconst (v := 1) h d_MD_readStep_134 (by decide) ?_
  refine mm_iadd h d_MD_readStep_135 ?_
  exact mm_iret h he rfl d_MD_readStep_136 hca hsa k0
theorem s_MD_readStep_137 {E : mm_E} {Γ : mm_G} {lev kc ks ca sa : Nat} {w : mm_W} {f : mm_F} {Post : Option Value → mm_W → mm_F → Prop} (h : mm_ok E Γ b_MD_readStep 3 "PlannedTablesModel" lev kc ks) (he : mm_end E Γ (some .int) kc ks Post y_MD_readStep.name) (hca : ca ≤ kc) (hsa : sa ≤ ks) (hw : mm_sh w) {x1 : Int32} {x2 : Int32} (k0 : Post (some (.int x2)) w (mm_up f 136 15 1)) : mm_go E Γ 3 137 [(0, mm_rf E 136), (1, .int x1), (2, .int x2)] [] w f ca sa := by
  refine mm_aload_n h d_MD_readStep_137 0 rfl rfl ?_
  refine mm_iconst (v := 1) h d_MD_readStep_138 (by decide) ?_
  refine mm_puti h fl_MD_95 (Or.inl rfl) rfl rfl rfl (is_MO hw) d_MD_readStep_139 ?_
  refine mm_iload_n h d_MD_readStep_142 2 rfl rfl ?_
  exact mm_iret h he rfl d_MD_readStep_143 hca hsa k0
theorem s_MD_readStep_144 {E : mm_E} {Γ : mm_G} {lev kc ks ca sa : Nat} {w : mm_W} {f : mm_F} (h : mm_ok E Γ b_MD_readStep 3 "PlannedTablesModel" lev kc ks) (hw : mm_sh w) {x1 : Int32} {x2 : Int32} {vl0 vc0 vs0 : Nat} {P0 : Option Value → mm_W → mm_F → Prop} (hl0 : vl0 < lev) (hu0 : ca + vc0 ≤ kc) (hz0 : sa + vs0 ≤ ks) (m0 : mm_C E y_MD_wordAt b_MD_wordAt 2 (some .int) vl0 vc0 vs0 [mm_rf E 136, .int x2] w f P0) (k1 : ∀ (r : Option Value) (w1 : mm_W) (f1 : mm_F), P0 r w1 f1 → mm_go E Γ 3 152 [(0, mm_rf E 136), (1, .int x1), (2, .int x2)] (r.toList ++ [mm_rf E 136, .int x2, mm_rf E 136]) w1 f1 (ca + vc0) (sa + vs0)) : mm_go E Γ 3 144 [(0, mm_rf E 136), (1, .int x1), (2, .int x2)] [] w f ca sa := by
  refine mm_aload_n h d_MD_readStep_144 0 rfl rfl ?_
  refine mm_iload_n h d_MD_readStep_145 2 rfl rfl ?_
  refine mm_aload_n h d_MD_readStep_146 0 rfl rfl ?_
  refine mm_aload_n h d_MD_readStep_147 0 rfl rfl ?_
  refine mm_iload_n h d_MD_readStep_148 2 rfl rfl ?_
  exact mm_callV (As := [.int x2]) (rest := [mm_rf E 136, .int x2, mm_rf E 136]) h m0 cv_MD_88 cm_MD_wordAt hl0 (q0 := _) rfl rfl (is_MO hw) hu0 hz0 rfl rfl (Nat.le_of_ble_eq_true rfl) d_MD_readStep_149 (fun r w1 f1 hp => k1 r w1 f1 hp)
theorem s_MD_readStep_152 {E : mm_E} {Γ : mm_G} {lev kc ks ca sa : Nat} {w : mm_W} {f : mm_F} (h : mm_ok E Γ b_MD_readStep 3 "PlannedTablesModel" lev kc ks) (hw : mm_sh w) {x1 : Int32} {x2 : Int32} {xk1 : Int32} {xk3 : Int32} {vl0 vc0 vs0 : Nat} {P0 : Option Value → mm_W → mm_F → Prop} (hl0 : vl0 < lev) (hu0 : ca + vc0 ≤ kc) (hz0 : sa + vs0 ≤ ks) (m0 : mm_C E y_MD_isCell b_MD_isCell 2 (some .boolean) vl0 vc0 vs0 [mm_rf E 136, .int xk3] w f P0) (k1 : ∀ (r : Option Value) (w1 : mm_W) (f1 : mm_F), P0 r w1 f1 → mm_go E Γ 3 155 [(0, mm_rf E 136), (1, .int x1), (2, .int x2)] (r.toList ++ [.int xk1, mm_rf E 136]) w1 f1 (ca + vc0) (sa + vs0)) : mm_go E Γ 3 152 [(0, mm_rf E 136), (1, .int x1), (2, .int x2)] [.int xk3, mm_rf E 136, .int xk1, mm_rf E 136] w f ca sa := by
  exact mm_callV (As := [.int xk3]) (rest := [.int xk1, mm_rf E 136]) h m0 cv_MD_98 cm_MD_isCell hl0 (q0 := _) rfl rfl (is_MO hw) hu0 hz0 rfl rfl (Nat.le_of_ble_eq_true rfl) d_MD_readStep_152 (fun r w1 f1 hp => k1 r w1 f1 hp)
theorem s_MD_readStep_155 {E : mm_E} {Γ : mm_G} {lev kc ks ca sa : Nat} {w : mm_W} {f : mm_F} (h : mm_ok E Γ b_MD_readStep 3 "PlannedTablesModel" lev kc ks) (hw : mm_sh w) {x1 : Int32} {x2 : Int32} {xk1 : Int32} {xk2 : Int32} {vl0 vc0 vs0 : Nat} {P0 : Option Value → mm_W → mm_F → Prop} (hl0 : vl0 < lev) (hu0 : ca + vc0 ≤ kc) (hz0 : sa + vs0 ≤ ks) (m0 : mm_C E y_MD_demand b_MD_demand 3 none vl0 vc0 vs0 [mm_rf E 136, .int xk1, .int xk2] w f P0) (k1 : ∀ (r : Option Value) (w1 : mm_W) (f1 : mm_F), P0 r w1 f1 → mm_go E Γ 3 158 [(0, mm_rf E 136), (1, .int x1), (2, .int x2)] (r.toList ++ []) w1 f1 (ca + vc0) (sa + vs0)) : mm_go E Γ 3 155 [(0, mm_rf E 136), (1, .int x1), (2, .int x2)] [.int xk2, .int xk1, mm_rf E 136] w f ca sa := by
  exact mm_callV (As := [.int xk1, .int xk2]) (rest := []) h m0 cv_MD_91 cm_MD_demand hl0 (q0 := _) rfl rfl (is_MO hw) hu0 hz0 rfl rfl (Nat.le_of_ble_eq_true rfl) d_MD_readStep_155 (fun r w1 f1 hp => k1 r w1 f1 hp)
theorem s_MD_readStep_158 {E : mm_E} {Γ : mm_G} {lev kc ks ca sa : Nat} {w : mm_W} {f : mm_F} {Post : Option Value → mm_W → mm_F → Prop} (h : mm_ok E Γ b_MD_readStep 3 "PlannedTablesModel" lev kc ks) (he : mm_end E Γ (some .int) kc ks Post y_MD_readStep.name) (hca : ca ≤ kc) (hsa : sa ≤ ks) (hw : mm_sh w) {x1 : Int32} {x2 : Int32} (k0 : Post (some (.int (x2 + 1))) w (mm_up f 136 15 1)) : mm_go E Γ 3 158 [(0, mm_rf E 136), (1, .int x1), (2, .int x2)] [] w f ca sa := by
  refine mm_aload_n h d_MD_readStep_158 0 rfl rfl ?_
  refine mm_iconst (v := 1) h d_MD_readStep_159 (by decide) ?_
  refine mm_puti h fl_MD_95 (Or.inl rfl) rfl rfl rfl (is_MO hw) d_MD_readStep_160 ?_
  refine mm_iload_n h d_MD_readStep_163 2 rfl rfl ?_
  refine mm_iconst (v := 1) h d_MD_readStep_164 (by decide) ?_
  refine mm_iadd h d_MD_readStep_165 ?_
  exact mm_iret h he rfl d_MD_readStep_166 hca hsa k0
theorem s_MD_readStep_167 {E : mm_E} {Γ : mm_G} {lev kc ks ca sa : Nat} {w : mm_W} {f : mm_F} (h : mm_ok E Γ b_MD_readStep 3 "PlannedTablesModel" lev kc ks) (hw : mm_sh w) {x1 : Int32} {x2 : Int32} {vl0 vc0 vs0 : Nat} {P0 : Option Value → mm_W → mm_F → Prop} (hl0 : vl0 < lev) (hu0 : ca + vc0 ≤ kc) (hz0 : sa + vs0 ≤ ks) (m0 : mm_C E y_MD_wordAt b_MD_wordAt 2 (some .int) vl0 vc0 vs0 [mm_rf E 136, .int x2] w f P0) (k1 : ∀ (r : Option Value) (w1 : mm_W) (f1 : mm_F), P0 r w1 f1 → mm_go E Γ 3 175 [(0, mm_rf E 136), (1, .int x1), (2, .int x2)] (r.toList ++ [mm_rf E 136, .int x2, mm_rf E 136]) w1 f1 (ca + vc0) (sa + vs0)) : mm_go E Γ 3 167 [(0, mm_rf E 136), (1, .int x1), (2, .int x2)] [] w f ca sa := by
  refine mm_aload_n h d_MD_readStep_167 0 rfl rfl ?_
  refine mm_iload_n h d_MD_readStep_168 2 rfl rfl ?_
  refine mm_aload_n h d_MD_readStep_169 0 rfl rfl ?_
  refine mm_aload_n h d_MD_readStep_170 0 rfl rfl ?_
  refine mm_iload_n h d_MD_readStep_171 2 rfl rfl ?_
  exact mm_callV (As := [.int x2]) (rest := [mm_rf E 136, .int x2, mm_rf E 136]) h m0 cv_MD_88 cm_MD_wordAt hl0 (q0 := _) rfl rfl (is_MO hw) hu0 hz0 rfl rfl (Nat.le_of_ble_eq_true rfl) d_MD_readStep_172 (fun r w1 f1 hp => k1 r w1 f1 hp)
theorem s_MD_readStep_175 {E : mm_E} {Γ : mm_G} {lev kc ks ca sa : Nat} {w : mm_W} {f : mm_F} (h : mm_ok E Γ b_MD_readStep 3 "PlannedTablesModel" lev kc ks) (hw : mm_sh w) {x1 : Int32} {x2 : Int32} {xk1 : Int32} {xk3 : Int32} {vl0 vc0 vs0 : Nat} {P0 : Option Value → mm_W → mm_F → Prop} (hl0 : vl0 < lev) (hu0 : ca + vc0 ≤ kc) (hz0 : sa + vs0 ≤ ks) (m0 : mm_C E y_MD_isCell b_MD_isCell 2 (some .boolean) vl0 vc0 vs0 [mm_rf E 136, .int xk3] w f P0) (k1 : ∀ (r : Option Value) (w1 : mm_W) (f1 : mm_F), P0 r w1 f1 → mm_go E Γ 3 178 [(0, mm_rf E 136), (1, .int x1), (2, .int x2)] (r.toList ++ [.int xk1, mm_rf E 136]) w1 f1 (ca + vc0) (sa + vs0)) : mm_go E Γ 3 175 [(0, mm_rf E 136), (1, .int x1), (2, .int x2)] [.int xk3, mm_rf E 136, .int xk1, mm_rf E 136] w f ca sa := by
  exact mm_callV (As := [.int xk3]) (rest := [.int xk1, mm_rf E 136]) h m0 cv_MD_98 cm_MD_isCell hl0 (q0 := _) rfl rfl (is_MO hw) hu0 hz0 rfl rfl (Nat.le_of_ble_eq_true rfl) d_MD_readStep_175 (fun r w1 f1 hp => k1 r w1 f1 hp)
theorem s_MD_readStep_178 {E : mm_E} {Γ : mm_G} {lev kc ks ca sa : Nat} {w : mm_W} {f : mm_F} (h : mm_ok E Γ b_MD_readStep 3 "PlannedTablesModel" lev kc ks) (hw : mm_sh w) {x1 : Int32} {x2 : Int32} {xk1 : Int32} {xk2 : Int32} {vl0 vc0 vs0 : Nat} {P0 : Option Value → mm_W → mm_F → Prop} (hl0 : vl0 < lev) (hu0 : ca + vc0 ≤ kc) (hz0 : sa + vs0 ≤ ks) (m0 : mm_C E y_MD_demand b_MD_demand 3 none vl0 vc0 vs0 [mm_rf E 136, .int xk1, .int xk2] w f P0) (k1 : ∀ (r : Option Value) (w1 : mm_W) (f1 : mm_F), P0 r w1 f1 → mm_go E Γ 3 181 [(0, mm_rf E 136), (1, .int x1), (2, .int x2)] (r.toList ++ []) w1 f1 (ca + vc0) (sa + vs0)) : mm_go E Γ 3 178 [(0, mm_rf E 136), (1, .int x1), (2, .int x2)] [.int xk2, .int xk1, mm_rf E 136] w f ca sa := by
  exact mm_callV (As := [.int xk1, .int xk2]) (rest := []) h m0 cv_MD_91 cm_MD_demand hl0 (q0 := _) rfl rfl (is_MO hw) hu0 hz0 rfl rfl (Nat.le_of_ble_eq_true rfl) d_MD_readStep_178 (fun r w1 f1 hp => k1 r w1 f1 hp)
theorem s_MD_readStep_181 {E : mm_E} {Γ : mm_G} {lev kc ks ca sa : Nat} {w : mm_W} {f : mm_F} {Post : Option Value → mm_W → mm_F → Prop} (h : mm_ok E Γ b_MD_readStep 3 "PlannedTablesModel" lev kc ks) (he : mm_end E Γ (some .int) kc ks Post y_MD_readStep.name) (hca : ca ≤ kc) (hsa : sa ≤ ks) (hw : mm_sh w) {x1 : Int32} {x2 : Int32} (k0 : Post (some (.int (x2 + 1))) w (mm_up f 136 15 2)) : mm_go E Γ 3 181 [(0, mm_rf E 136), (1, .int x1), (2, .int x2)] [] w f ca sa := by
  refine mm_aload_n h d_MD_readStep_181 0 rfl rfl ?_
  refine mm_iconst (v := 2) h d_MD_readStep_182 (by decide) ?_
  refine mm_puti h fl_MD_95 (Or.inl rfl) rfl rfl rfl (is_MO hw) d_MD_readStep_183 ?_
  refine mm_iload_n h d_MD_readStep_186 2 rfl rfl ?_
  refine mm_iconst (v := 1) h d_MD_readStep_187 (by decide) ?_
  refine mm_iadd h d_MD_readStep_188 ?_
  exact mm_iret h he rfl d_MD_readStep_189 hca hsa k0
theorem d_MD_readPlan_0 : decode b_MD_readPlan 0 = .ok (.aload_n 0, 1) := by decide +kernel
theorem d_MD_readPlan_1 : decode b_MD_readPlan 1 = .ok (.iconst (-1), 1) := by decide +kernel
theorem d_MD_readPlan_2 : decode b_MD_readPlan 2 = .ok (.putfield 85, 3) := by decide +kernel
theorem d_MD_readPlan_5 : decode b_MD_readPlan 5 = .ok (.aload_n 0, 1) := by decide +kernel
theorem d_MD_readPlan_6 : decode b_MD_readPlan 6 = .ok (.iconst (1), 1) := by decide +kernel
theorem d_MD_readPlan_7 : decode b_MD_readPlan 7 = .ok (.putfield 107, 3) := by decide +kernel
theorem d_MD_readPlan_10 : decode b_MD_readPlan 10 = .ok (.aload_n 0, 1) := by decide +kernel
theorem d_MD_readPlan_11 : decode b_MD_readPlan 11 = .ok (.iconst (0), 1) := by decide +kernel
theorem d_MD_readPlan_12 : decode b_MD_readPlan 12 = .ok (.putfield 95, 3) := by decide +kernel
theorem d_MD_readPlan_15 : decode b_MD_readPlan 15 = .ok (.aload_n 0, 1) := by decide +kernel
theorem d_MD_readPlan_16 : decode b_MD_readPlan 16 = .ok (.invokevirtual 110, 3) := by decide +kernel
theorem d_MD_readPlan_19 : decode b_MD_readPlan 19 = .ok (.aload_n 0, 1) := by decide +kernel
theorem d_MD_readPlan_20 : decode b_MD_readPlan 20 = .ok (.getfield 29, 3) := by decide +kernel
theorem d_MD_readPlan_23 : decode b_MD_readPlan 23 = .ok (.iconst (0), 1) := by decide +kernel
theorem d_MD_readPlan_24 : decode b_MD_readPlan 24 = .ok (.iaload, 1) := by decide +kernel
theorem d_MD_readPlan_25 : decode b_MD_readPlan 25 = .ok (.iconst (2), 1) := by decide +kernel
theorem d_MD_readPlan_26 : decode b_MD_readPlan 26 = .ok (.if_icmp .ne (7), 3) := by decide +kernel
theorem d_MD_readPlan_29 : decode b_MD_readPlan 29 = .ok (.iconst (5), 1) := by decide +kernel
theorem d_MD_readPlan_30 : decode b_MD_readPlan 30 = .ok (.goto (4), 3) := by decide +kernel
theorem d_MD_readPlan_33 : decode b_MD_readPlan 33 = .ok (.iconst (2), 1) := by decide +kernel
theorem d_MD_readPlan_34 : decode b_MD_readPlan 34 = .ok (.istore_n 1, 1) := by decide +kernel
theorem d_MD_readPlan_35 : decode b_MD_readPlan 35 = .ok (.aload_n 0, 1) := by decide +kernel
theorem d_MD_readPlan_36 : decode b_MD_readPlan 36 = .ok (.getfield 85, 3) := by decide +kernel
theorem d_MD_readPlan_39 : decode b_MD_readPlan 39 = .ok (.ifCond .ge (103), 3) := by decide +kernel
theorem d_MD_readPlan_42 : decode b_MD_readPlan 42 = .ok (.iload_n 1, 1) := by decide +kernel
theorem d_MD_readPlan_43 : decode b_MD_readPlan 43 = .ok (.aload_n 0, 1) := by decide +kernel
theorem d_MD_readPlan_44 : decode b_MD_readPlan 44 = .ok (.getfield 82, 3) := by decide +kernel
theorem d_MD_readPlan_47 : decode b_MD_readPlan 47 = .ok (.if_icmp .ge (95), 3) := by decide +kernel
theorem d_MD_readPlan_50 : decode b_MD_readPlan 50 = .ok (.aload_n 0, 1) := by decide +kernel
theorem d_MD_readPlan_51 : decode b_MD_readPlan 51 = .ok (.getfield 26, 3) := by decide +kernel
theorem d_MD_readPlan_54 : decode b_MD_readPlan 54 = .ok (.iload_n 1, 1) := by decide +kernel
theorem d_MD_readPlan_55 : decode b_MD_readPlan 55 = .ok (.iaload, 1) := by decide +kernel
theorem d_MD_readPlan_56 : decode b_MD_readPlan 56 = .ok (.istore_n 2, 1) := by decide +kernel
theorem d_MD_readPlan_57 : decode b_MD_readPlan 57 = .ok (.aload_n 0, 1) := by decide +kernel
theorem d_MD_readPlan_58 : decode b_MD_readPlan 58 = .ok (.iload_n 1, 1) := by decide +kernel
theorem d_MD_readPlan_59 : decode b_MD_readPlan 59 = .ok (.iload_n 2, 1) := by decide +kernel
theorem d_MD_readPlan_60 : decode b_MD_readPlan 60 = .ok (.iconst (3), 1) := by decide +kernel
theorem d_MD_readPlan_61 : decode b_MD_readPlan 61 = .ok (.if_icmp .lt (13), 3) := by decide +kernel
theorem d_MD_readPlan_64 : decode b_MD_readPlan 64 = .ok (.iload_n 2, 1) := by decide +kernel
theorem d_MD_readPlan_65 : decode b_MD_readPlan 65 = .ok (.bipush (10), 2) := by decide +kernel
theorem d_MD_readPlan_67 : decode b_MD_readPlan 67 = .ok (.if_icmp .gt (7), 3) := by decide +kernel
theorem d_MD_readPlan_70 : decode b_MD_readPlan 70 = .ok (.iconst (1), 1) := by decide +kernel
theorem d_MD_readPlan_71 : decode b_MD_readPlan 71 = .ok (.goto (4), 3) := by decide +kernel
theorem d_MD_readPlan_74 : decode b_MD_readPlan 74 = .ok (.iconst (0), 1) := by decide +kernel
theorem d_MD_readPlan_75 : decode b_MD_readPlan 75 = .ok (.invokevirtual 91, 3) := by decide +kernel
theorem d_MD_readPlan_78 : decode b_MD_readPlan 78 = .ok (.aload_n 0, 1) := by decide +kernel
theorem d_MD_readPlan_79 : decode b_MD_readPlan 79 = .ok (.getfield 85, 3) := by decide +kernel
theorem d_MD_readPlan_82 : decode b_MD_readPlan 82 = .ok (.ifCond .ge (57), 3) := by decide +kernel
theorem d_MD_readPlan_85 : decode b_MD_readPlan 85 = .ok (.aload_n 0, 1) := by decide +kernel
theorem d_MD_readPlan_86 : decode b_MD_readPlan 86 = .ok (.getfield 29, 3) := by decide +kernel
theorem d_MD_readPlan_89 : decode b_MD_readPlan 89 = .ok (.aload_n 0, 1) := by decide +kernel
theorem d_MD_readPlan_90 : decode b_MD_readPlan 90 = .ok (.getfield 107, 3) := by decide +kernel
theorem d_MD_readPlan_93 : decode b_MD_readPlan 93 = .ok (.iload_n 2, 1) := by decide +kernel
theorem d_MD_readPlan_94 : decode b_MD_readPlan 94 = .ok (.iastore, 1) := by decide +kernel
theorem d_MD_readPlan_95 : decode b_MD_readPlan 95 = .ok (.aload_n 0, 1) := by decide +kernel
theorem d_MD_readPlan_96 : decode b_MD_readPlan 96 = .ok (.getfield 32, 3) := by decide +kernel
theorem d_MD_readPlan_99 : decode b_MD_readPlan 99 = .ok (.aload_n 0, 1) := by decide +kernel
theorem d_MD_readPlan_100 : decode b_MD_readPlan 100 = .ok (.getfield 107, 3) := by decide +kernel
theorem d_MD_readPlan_103 : decode b_MD_readPlan 103 = .ok (.iload_n 1, 1) := by decide +kernel
theorem d_MD_readPlan_104 : decode b_MD_readPlan 104 = .ok (.iconst (1), 1) := by decide +kernel
theorem d_MD_readPlan_105 : decode b_MD_readPlan 105 = .ok (.iadd, 1) := by decide +kernel
theorem d_MD_readPlan_106 : decode b_MD_readPlan 106 = .ok (.iastore, 1) := by decide +kernel
theorem d_MD_readPlan_107 : decode b_MD_readPlan 107 = .ok (.aload_n 0, 1) := by decide +kernel
theorem d_MD_readPlan_108 : decode b_MD_readPlan 108 = .ok (.getfield 35, 3) := by decide +kernel
theorem d_MD_readPlan_111 : decode b_MD_readPlan 111 = .ok (.aload_n 0, 1) := by decide +kernel
theorem d_MD_readPlan_112 : decode b_MD_readPlan 112 = .ok (.getfield 107, 3) := by decide +kernel
theorem d_MD_readPlan_115 : decode b_MD_readPlan 115 = .ok (.aload_n 0, 1) := by decide +kernel
theorem d_MD_readPlan_116 : decode b_MD_readPlan 116 = .ok (.getfield 95, 3) := by decide +kernel
theorem d_MD_readPlan_119 : decode b_MD_readPlan 119 = .ok (.iastore, 1) := by decide +kernel
theorem d_MD_readPlan_120 : decode b_MD_readPlan 120 = .ok (.aload_n 0, 1) := by decide +kernel
theorem d_MD_readPlan_121 : decode b_MD_readPlan 121 = .ok (.aload_n 0, 1) := by decide +kernel
theorem d_MD_readPlan_122 : decode b_MD_readPlan 122 = .ok (.getfield 107, 3) := by decide +kernel
theorem d_MD_readPlan_125 : decode b_MD_readPlan 125 = .ok (.iconst (1), 1) := by decide +kernel
theorem d_MD_readPlan_126 : decode b_MD_readPlan 126 = .ok (.iadd, 1) := by decide +kernel
theorem d_MD_readPlan_127 : decode b_MD_readPlan 127 = .ok (.putfield 107, 3) := by decide +kernel
theorem d_MD_readPlan_130 : decode b_MD_readPlan 130 = .ok (.aload_n 0, 1) := by decide +kernel
theorem d_MD_readPlan_131 : decode b_MD_readPlan 131 = .ok (.iload_n 2, 1) := by decide +kernel
theorem d_MD_readPlan_132 : decode b_MD_readPlan 132 = .ok (.iload_n 1, 1) := by decide +kernel
theorem d_MD_readPlan_133 : decode b_MD_readPlan 133 = .ok (.iconst (1), 1) := by decide +kernel
theorem d_MD_readPlan_134 : decode b_MD_readPlan 134 = .ok (.iadd, 1) := by decide +kernel
theorem d_MD_readPlan_135 : decode b_MD_readPlan 135 = .ok (.invokevirtual 113, 3) := by decide +kernel
theorem d_MD_readPlan_138 : decode b_MD_readPlan 138 = .ok (.istore_n 1, 1) := by decide +kernel
theorem d_MD_readPlan_139 : decode b_MD_readPlan 139 = .ok (.goto (-104), 3) := by decide +kernel
theorem d_MD_readPlan_142 : decode b_MD_readPlan 142 = .ok (.return_, 1) := by decide +kernel
theorem s_MD_readPlan_0 {E : mm_E} {Γ : mm_G} {lev kc ks ca sa : Nat} {w : mm_W} {f : mm_F} (h : mm_ok E Γ b_MD_readPlan 3 "PlannedTablesModel" lev kc ks) (hw : mm_sh w)  {vl0 vc0 vs0 : Nat} {P0 : Option Value → mm_W → mm_F → Prop} (hl0 : vl0 < lev) (hu0 : ca + vc0 ≤ kc) (hz0 : sa + vs0 ≤ ks) (m0 : mm_C E y_MD_readSource b_MD_readSource 3 none vl0 vc0 vs0 [mm_rf E 136] w (mm_up (mm_up (mm_up f 136 11 (-1)) 136 10 1) 136 15 0) P0) (k1 : ∀ (r : Option Value) (w1 : mm_W) (f1 : mm_F), P0 r w1 f1 → mm_go E Γ 3 19 [(0, mm_rf E 136)] (r.toList ++ []) w1 f1 (ca + vc0) (sa + vs0)) : mm_go E Γ 3 0 [(0, mm_rf E 136)] [] w f ca sa := by
  refine mm_aload_n h d_MD_readPlan_0 0 rfl rfl ?_
  refine mm_iconst (v := (-1)) h d_MD_readPlan_1 (by decide) ?_
  refine mm_puti h fl_MD_85 (Or.inl rfl) rfl rfl rfl (is_MO hw) d_MD_readPlan_2 ?_
  refine mm_aload_n h d_MD_readPlan_5 0 rfl rfl ?_
  refine mm_iconst (v := 1) h d_MD_readPlan_6 (by decide) ?_
  refine mm_puti h fl_MD_107 (Or.inl rfl) rfl rfl rfl (is_MO hw) d_MD_readPlan_7 ?_
  refine mm_aload_n h d_MD_readPlan_10 0 rfl rfl ?_
  refine mm_iconst (v := 0) h d_MD_readPlan_11 (by decide) ?_
  refine mm_puti h fl_MD_95 (Or.inl rfl) rfl rfl rfl (is_MO hw) d_MD_readPlan_12 ?_
  refine mm_aload_n h d_MD_readPlan_15 0 rfl rfl ?_
  exact mm_callV (As := []) (rest := []) h m0 cv_MD_110 cm_MD_readSource hl0 (q0 := _) rfl rfl (is_MO hw) hu0 hz0 rfl rfl (Nat.le_of_ble_eq_true rfl) d_MD_readPlan_16 (fun r w1 f1 hp => k1 r w1 f1 hp)
theorem s_MD_readPlan_19 {E : mm_E} {Γ : mm_G} {lev kc ks ca sa : Nat} {w : mm_W} {f : mm_F} (h : mm_ok E Γ b_MD_readPlan 3 "PlannedTablesModel" lev kc ks) (hw : mm_sh w)  (k0 : ¬ (f 143 0) = 2 → mm_go E Γ 3 34 [(0, mm_rf E 136)] [.int 2] w f ca sa) (k1 : (f 143 0) = 2 → mm_go E Γ 3 34 [(0, mm_rf E 136)] [.int 5] w f ca sa) : mm_go E Γ 3 19 [(0, mm_rf E 136)] [] w f ca sa := by
  refine mm_aload_n h d_MD_readPlan_19 0 rfl rfl ?_
  refine mm_getr h fl_MD_29 rfl (is_MO hw) (rf_MO_ops hw) (is_Mops hw).1.1 d_MD_readPlan_20 ?_
  refine mm_iconst (v := 0) h d_MD_readPlan_23 (by decide) ?_
  refine mm_iald h (is_Mops hw) (by unfold vp_in; decide) d_MD_readPlan_24 ?_
  refine mm_iconst (v := 2) h d_MD_readPlan_25 (by decide) ?_
  refine mm_icmp_ne h d_MD_readPlan_26 (tgt := 33) (by decide) (fun c1 => ?_) (fun c1 => ?_)
  · skip
    refine mm_iconst (v := 2) h d_MD_readPlan_33 (by decide) ?_
    exact (k0 c1)
  · skip
    refine mm_iconst (v := 5) h d_MD_readPlan_29 (by decide) ?_
    refine mm_goto h d_MD_readPlan_30 (tgt := 34) (by decide) ?_
    exact (k1 c1)
theorem s_MD_readPlan_34 {E : mm_E} {Γ : mm_G} {lev kc ks ca sa : Nat} {w : mm_W} {f : mm_F} (h : mm_ok E Γ b_MD_readPlan 3 "PlannedTablesModel" lev kc ks) (hw : mm_sh w) {xk0 : Int32} (k0 : mm_go E Γ 3 35 [(0, mm_rf E 136), (1, .int xk0)] [] w f ca sa) : mm_go E Γ 3 34 [(0, mm_rf E 136)] [.int xk0] w f ca sa := by
  refine mm_istore_n (lv' := [(1, .int xk0), (0, mm_rf E 136)]) h d_MD_readPlan_34 rfl (by decide) rfl ?_
  refine mm_sub [1, 0] rfl ?_
  exact k0
theorem s_MD_readPlan_35 {E : mm_E} {Γ : mm_G} {lev kc ks ca sa : Nat} {w : mm_W} {f : mm_F} (h : mm_ok E Γ b_MD_readPlan 3 "PlannedTablesModel" lev kc ks) (hw : mm_sh w) {x1 : Int32} (k0 : 0 ≤ (f 136 11) → mm_go E Γ 3 142 [(0, mm_rf E 136), (1, .int x1)] [] w f ca sa) (k1 : ¬ 0 ≤ (f 136 11) → (f 136 8) ≤ x1 → mm_go E Γ 3 142 [(0, mm_rf E 136), (1, .int x1)] [] w f ca sa) (b2 : ¬ 0 ≤ (f 136 11) → ¬ (f 136 8) ≤ x1 → vp_in x1 40) (k3 : ¬ 0 ≤ (f 136 11) → ¬ (f 136 8) ≤ x1 → (f 142 (x1).toNatClampNeg) < 3 → mm_go E Γ 3 74 [(0, mm_rf E 136), (1, .int x1), (2, .int (f 142 (x1).toNatClampNeg))] [.int x1, mm_rf E 136] w f ca sa) (k4 : ¬ 0 ≤ (f 136 11) → ¬ (f 136 8) ≤ x1 → ¬ (f 142 (x1).toNatClampNeg) < 3 → 10 < (f 142 (x1).toNatClampNeg) → mm_go E Γ 3 74 [(0, mm_rf E 136), (1, .int x1), (2, .int (f 142 (x1).toNatClampNeg))] [.int x1, mm_rf E 136] w f ca sa) (k5 : ¬ 0 ≤ (f 136 11) → ¬ (f 136 8) ≤ x1 → ¬ (f 142 (x1).toNatClampNeg) < 3 → ¬ 10 < (f 142 (x1).toNatClampNeg) → mm_go E Γ 3 75 [(0, mm_rf E 136), (1, .int x1), (2, .int (f 142 (x1).toNatClampNeg))] [.int 1, .int x1, mm_rf E 136] w f ca sa) : mm_go E Γ 3 35 [(0, mm_rf E 136), (1, .int x1)] [] w f ca sa := by
  refine mm_aload_n h d_MD_readPlan_35 0 rfl rfl ?_
  refine mm_geti h fl_MD_85 rfl (is_MO hw) d_MD_readPlan_36 ?_
  refine mm_if_ge h d_MD_readPlan_39 (tgt := 142) (by decide) (fun c1 => ?_) (fun c1 => ?_)
  · skip
    exact (k0 c1)
  · skip
    refine mm_iload_n h d_MD_readPlan_42 1 rfl rfl ?_
    refine mm_aload_n h d_MD_readPlan_43 0 rfl rfl ?_
    refine mm_geti h fl_MD_82 rfl (is_MO hw) d_MD_readPlan_44 ?_
    refine mm_icmp_ge h d_MD_readPlan_47 (tgt := 142) (by decide) (fun c2 => ?_) (fun c2 => ?_)
    · skip
      exact (k1 c1 c2)
    · skip
      refine mm_aload_n h d_MD_readPlan_50 0 rfl rfl ?_
      refine mm_getr h fl_MD_26 rfl (is_MO hw) (rf_MO_plan hw) (is_Mplan hw).1.1 d_MD_readPlan_51 ?_
      refine mm_iload_n h d_MD_readPlan_54 1 rfl rfl ?_
      refine mm_iald h (is_Mplan hw) (b2 c1 c2) d_MD_readPlan_55 ?_
      refine mm_istore_n (lv' := [(2, .int (f 142 (x1).toNatClampNeg)), (0, mm_rf E 136), (1, .int x1)]) h d_MD_readPlan_56 rfl (by decide) rfl ?_
      refine mm_aload_n h d_MD_readPlan_57 1 rfl rfl ?_
      refine mm_iload_n h d_MD_readPlan_58 2 rfl rfl ?_
      refine mm_iload_n h d_MD_readPlan_59 0 rfl rfl ?_
      refine mm_iconst (v := 3) h d_MD_readPlan_60 (by decide) ?_
      refine mm_icmp_lt h d_MD_readPlan_61 (tgt := 74) (by decide) (fun c3 => ?_) (fun c3 => ?_)
      · skip
        refine mm_sub [1, 2, 0] rfl ?_
        exact (k3 c1 c2 c3)
      · skip
        refine mm_iload_n h d_MD_readPlan_64 0 rfl rfl ?_
        refine mm_bipush (v := 10) h d_MD_readPlan_65 (by decide) ?_
        refine mm_icmp_gt h d_MD_readPlan_67 (tgt := 74) (by decide) (fun c4 => ?_) (fun c4 => ?_)
        · skip
          refine mm_sub [1, 2, 0] rfl ?_
          exact (k4 c1 c2 c3 c4)
        · skip
          refine mm_iconst (v := 1) h d_MD_readPlan_70 (by decide) ?_
          refine mm_goto h d_MD_readPlan_71 (tgt := 75) (by decide) ?_
          refine mm_sub [1, 2, 0] rfl ?_
          exact (k5 c1 c2 c3 c4)
theorem s_MD_readPlan_74 {E : mm_E} {Γ : mm_G} {lev kc ks ca sa : Nat} {w : mm_W} {f : mm_F} (h : mm_ok E Γ b_MD_readPlan 3 "PlannedTablesModel" lev kc ks) (hw : mm_sh w) {x1 : Int32} {x2 : Int32} {xk1 : Int32} (k0 : mm_go E Γ 3 75 [(0, mm_rf E 136), (1, .int x1), (2, .int x2)] [.int 0, .int xk1, mm_rf E 136] w f ca sa) : mm_go E Γ 3 74 [(0, mm_rf E 136), (1, .int x1), (2, .int x2)] [.int xk1, mm_rf E 136] w f ca sa := by
  refine mm_iconst (v := 0) h d_MD_readPlan_74 (by decide) ?_
  exact k0
theorem s_MD_readPlan_75 {E : mm_E} {Γ : mm_G} {lev kc ks ca sa : Nat} {w : mm_W} {f : mm_F} (h : mm_ok E Γ b_MD_readPlan 3 "PlannedTablesModel" lev kc ks) (hw : mm_sh w) {x1 : Int32} {x2 : Int32} {xk1 : Int32} {xk2 : Int32} {vl0 vc0 vs0 : Nat} {P0 : Option Value → mm_W → mm_F → Prop} (hl0 : vl0 < lev) (hu0 : ca + vc0 ≤ kc) (hz0 : sa + vs0 ≤ ks) (m0 : mm_C E y_MD_demand b_MD_demand 3 none vl0 vc0 vs0 [mm_rf E 136, .int xk1, .int xk2] w f P0) (k1 : ∀ (r : Option Value) (w1 : mm_W) (f1 : mm_F), P0 r w1 f1 → mm_go E Γ 3 78 [(0, mm_rf E 136), (1, .int x1), (2, .int x2)] (r.toList ++ []) w1 f1 (ca + vc0) (sa + vs0)) : mm_go E Γ 3 75 [(0, mm_rf E 136), (1, .int x1), (2, .int x2)] [.int xk2, .int xk1, mm_rf E 136] w f ca sa := by
  exact mm_callV (As := [.int xk1, .int xk2]) (rest := []) h m0 cv_MD_91 cm_MD_demand hl0 (q0 := _) rfl rfl (is_MO hw) hu0 hz0 rfl rfl (Nat.le_of_ble_eq_true rfl) d_MD_readPlan_75 (fun r w1 f1 hp => k1 r w1 f1 hp)
theorem s_MD_readPlan_78 {E : mm_E} {Γ : mm_G} {lev kc ks ca sa : Nat} {w : mm_W} {f : mm_F} (h : mm_ok E Γ b_MD_readPlan 3 "PlannedTablesModel" lev kc ks) (hw : mm_sh w) {x1 : Int32} {x2 : Int32} (k0 : 0 ≤ (f 136 11) → mm_go E Γ 3 139 [(0, mm_rf E 136), (1, .int x1), (2, .int x2)] [] w f ca sa) (b1 : ¬ 0 ≤ (f 136 11) → vp_in (f 136 10) 40) (b2 : ¬ 0 ≤ (f 136 11) → vp_in ((mm_up f 143 ((f 136 10)).toNatClampNeg x2) 136 10) 40) (b3 : ¬ 0 ≤ (f 136 11) → vp_in ((mm_up (mm_up f 143 ((f 136 10)).toNatClampNeg x2) 144 (((mm_up f 143 ((f 136 10)).toNatClampNeg x2) 136 10)).toNatClampNeg (x1 + 1)) 136 10) 40) {vl0 vc0 vs0 : Nat} {P0 : Option Value → mm_W → mm_F → Prop} (hl0 : vl0 < lev) (hu0 : ca + vc0 ≤ kc) (hz0 : sa + vs0 ≤ ks) (m4 : ¬ 0 ≤ (f 136 11) → mm_C E y_MD_readStep b_MD_readStep 3 (some .int) vl0 vc0 vs0 [mm_rf E 136, .int x2, .int (x1 + 1)] w (mm_up (mm_up (mm_up (mm_up f 143 ((f 136 10)).toNatClampNeg x2) 144 (((mm_up f 143 ((f 136 10)).toNatClampNeg x2) 136 10)).toNatClampNeg (x1 + 1)) 145 (((mm_up (mm_up f 143 ((f 136 10)).toNatClampNeg x2) 144 (((mm_up f 143 ((f 136 10)).toNatClampNeg x2) 136 10)).toNatClampNeg (x1 + 1)) 136 10)).toNatClampNeg ((mm_up (mm_up f 143 ((f 136 10)).toNatClampNeg x2) 144 (((mm_up f 143 ((f 136 10)).toNatClampNeg x2) 136 10)).toNatClampNeg (x1 + 1)) 136 15)) 136 10 (((mm_up (mm_up (mm_up f 143 ((f 136 10)).toNatClampNeg x2) 144 (((mm_up f 143 ((f 136 10)).toNatClampNeg x2) 136 10)).toNatClampNeg (x1 + 1)) 145 (((mm_up (mm_up f 143 ((f 136 10)).toNatClampNeg x2) 144 (((mm_up f 143 ((f 136 10)).toNatClampNeg x2) 136 10)).toNatClampNeg (x1 + 1)) 136 10)).toNatClampNeg ((mm_up (mm_up f 143 ((f 136 10)).toNatClampNeg x2) 144 (((mm_up f 143 ((f 136 10)).toNatClampNeg x2) 136 10)).toNatClampNeg (x1 + 1)) 136 15)) 136 10) + 1)) P0) (k5 : ¬ 0 ≤ (f 136 11) → ∀ (r : Option Value) (w1 : mm_W) (f1 : mm_F), P0 r w1 f1 → mm_go E Γ 3 138 [(0, mm_rf E 136), (1, .int x1), (2, .int x2)] (r.toList ++ []) w1 f1 (ca + vc0) (sa + vs0)) : mm_go E Γ 3 78 [(0, mm_rf E 136), (1, .int x1), (2, .int x2)] [] w f ca sa := by
  refine mm_aload_n h d_MD_readPlan_78 0 rfl rfl ?_
  refine mm_geti h fl_MD_85 rfl (is_MO hw) d_MD_readPlan_79 ?_
  refine mm_if_ge h d_MD_readPlan_82 (tgt := 139) (by decide) (fun c1 => ?_) (fun c1 => ?_)
  · skip
    exact (k0 c1)
  · skip
    refine mm_aload_n h d_MD_readPlan_85 0 rfl rfl ?_
    refine mm_getr h fl_MD_29 rfl (is_MO hw) (rf_MO_ops hw) (is_Mops hw).1.1 d_MD_readPlan_86 ?_
    refine mm_aload_n h d_MD_readPlan_89 0 rfl rfl ?_
    refine mm_geti h fl_MD_107 rfl (is_MO hw) d_MD_readPlan_90 ?_
    refine mm_iload_n h d_MD_readPlan_93 2 rfl rfl ?_
    refine mm_iast h (is_Mops hw) (b1 c1) d_MD_readPlan_94 ?_
    refine mm_aload_n h d_MD_readPlan_95 0 rfl rfl ?_
    refine mm_getr h fl_MD_32 rfl (is_MO hw) (rf_MO_at hw) (is_Mat hw).1.1 d_MD_readPlan_96 ?_
    refine mm_aload_n h d_MD_readPlan_99 0 rfl rfl ?_
    refine mm_geti h fl_MD_107 rfl (is_MO hw) d_MD_readPlan_100 ?_
    refine mm_iload_n h d_MD_readPlan_103 1 rfl rfl ?_
    refine mm_iconst (v := 1) h d_MD_readPlan_104 (by decide) ?_
    refine mm_iadd h d_MD_readPlan_105 ?_
    refine mm_iast h (is_Mat hw) (b2 c1) d_MD_readPlan_106 ?_
    refine mm_aload_n h d_MD_readPlan_107 0 rfl rfl ?_
    refine mm_getr h fl_MD_35 rfl (is_MO hw) (rf_MO_wide hw) (is_Mwide hw).1.1 d_MD_readPlan_108 ?_
    refine mm_aload_n h d_MD_readPlan_111 0 rfl rfl ?_
    refine mm_geti h fl_MD_107 rfl (is_MO hw) d_MD_readPlan_112 ?_
    refine mm_aload_n h d_MD_readPlan_115 0 rfl rfl ?_
    refine mm_geti h fl_MD_95 rfl (is_MO hw) d_MD_readPlan_116 ?_
    refine mm_iast h (is_Mwide hw) (b3 c1) d_MD_readPlan_119 ?_
    refine mm_aload_n h d_MD_readPlan_120 0 rfl rfl ?_
    refine mm_aload_n h d_MD_readPlan_121 0 rfl rfl ?_
    refine mm_geti h fl_MD_107 rfl (is_MO hw) d_MD_readPlan_122 ?_
    refine mm_iconst (v := 1) h d_MD_readPlan_125 (by decide) ?_
    refine mm_iadd h d_MD_readPlan_126 ?_
    refine mm_puti h fl_MD_107 (Or.inl rfl) rfl rfl rfl (is_MO hw) d_MD_readPlan_127 ?_
    refine mm_aload_n h d_MD_readPlan_130 0 rfl rfl ?_
    refine mm_iload_n h d_MD_readPlan_131 2 rfl rfl ?_
    refine mm_iload_n h d_MD_readPlan_132 1 rfl rfl ?_
    refine mm_iconst (v := 1) h d_MD_readPlan_133 (by decide) ?_
    refine mm_iadd h d_MD_readPlan_134 ?_
    exact mm_callV (As := [.int x2, .int (x1 + 1)]) (rest := []) h (m4 c1) cv_MD_113 cm_MD_readStep hl0 (q0 := _) rfl rfl (is_MO hw) hu0 hz0 rfl rfl (Nat.le_of_ble_eq_true rfl) d_MD_readPlan_135 (fun r w1 f1 hp => (k5 c1) r w1 f1 hp)
theorem s_MD_readPlan_138 {E : mm_E} {Γ : mm_G} {lev kc ks ca sa : Nat} {w : mm_W} {f : mm_F} (h : mm_ok E Γ b_MD_readPlan 3 "PlannedTablesModel" lev kc ks) (hw : mm_sh w) {x1 : Int32} {x2 : Int32} {xk0 : Int32} (k0 : mm_go E Γ 3 139 [(0, mm_rf E 136), (1, .int xk0), (2, .int x2)] [] w f ca sa) : mm_go E Γ 3 138 [(0, mm_rf E 136), (1, .int x1), (2, .int x2)] [.int xk0] w f ca sa := by
  refine mm_istore_n (lv' := [(1, .int xk0), (0, mm_rf E 136), (2, .int x2)]) h d_MD_readPlan_138 rfl (by decide) rfl ?_
  refine mm_sub [1, 0, 2] rfl ?_
  exact k0
theorem s_MD_readPlan_139 {E : mm_E} {Γ : mm_G} {lev kc ks ca sa : Nat} {w : mm_W} {f : mm_F} (h : mm_ok E Γ b_MD_readPlan 3 "PlannedTablesModel" lev kc ks) (hw : mm_sh w) {x1 : Int32} {x2 : Int32} (k0 : mm_go E Γ 3 35 [(0, mm_rf E 136), (1, .int x1)] [] w f ca sa) : mm_go E Γ 3 139 [(0, mm_rf E 136), (1, .int x1), (2, .int x2)] [] w f ca sa := by
  refine mm_goto h d_MD_readPlan_139 (tgt := 35) (by decide) ?_
  refine mm_sub [0, 1] rfl ?_
  exact k0
theorem s_MD_readPlan_142 {E : mm_E} {Γ : mm_G} {lev kc ks ca sa : Nat} {w : mm_W} {f : mm_F} {Post : Option Value → mm_W → mm_F → Prop} (h : mm_ok E Γ b_MD_readPlan 3 "PlannedTablesModel" lev kc ks) (he : mm_end E Γ none kc ks Post y_MD_readPlan.name) (hca : ca ≤ kc) (hsa : sa ≤ ks) (hw : mm_sh w) {x1 : Int32} (k0 : Post none w f) : mm_go E Γ 3 142 [(0, mm_rf E 136), (1, .int x1)] [] w f ca sa := by
  exact mm_vret h he d_MD_readPlan_142 hca hsa k0
theorem d_MD_fault_0 : decode b_MD_fault 0 = .ok (.aload_n 0, 1) := by decide +kernel
theorem d_MD_fault_1 : decode b_MD_fault 1 = .ok (.iconst (0), 1) := by decide +kernel
theorem d_MD_fault_2 : decode b_MD_fault 2 = .ok (.putfield 56, 3) := by decide +kernel
theorem d_MD_fault_5 : decode b_MD_fault 5 = .ok (.aload_n 0, 1) := by decide +kernel
theorem d_MD_fault_6 : decode b_MD_fault 6 = .ok (.invokevirtual 116, 3) := by decide +kernel
theorem d_MD_fault_9 : decode b_MD_fault 9 = .ok (.aload_n 0, 1) := by decide +kernel
theorem d_MD_fault_10 : decode b_MD_fault 10 = .ok (.getfield 85, 3) := by decide +kernel
theorem d_MD_fault_13 : decode b_MD_fault 13 = .ok (.ifCond .ge (7), 3) := by decide +kernel
theorem d_MD_fault_16 : decode b_MD_fault 16 = .ok (.iconst (-1), 1) := by decide +kernel
theorem d_MD_fault_17 : decode b_MD_fault 17 = .ok (.goto (7), 3) := by decide +kernel
theorem d_MD_fault_20 : decode b_MD_fault 20 = .ok (.aload_n 0, 1) := by decide +kernel
theorem d_MD_fault_21 : decode b_MD_fault 21 = .ok (.getfield 85, 3) := by decide +kernel
theorem d_MD_fault_24 : decode b_MD_fault 24 = .ok (.ireturn, 1) := by decide +kernel
theorem s_MD_fault_0 {E : mm_E} {Γ : mm_G} {lev kc ks ca sa : Nat} {w : mm_W} {f : mm_F} (h : mm_ok E Γ b_MD_fault 1 "PlannedTablesModel" lev kc ks) (hw : mm_sh w)  {vl0 vc0 vs0 : Nat} {P0 : Option Value → mm_W → mm_F → Prop} (hl0 : vl0 < lev) (hu0 : ca + vc0 ≤ kc) (hz0 : sa + vs0 ≤ ks) (m0 : mm_C E y_MD_readPlan b_MD_readPlan 3 none vl0 vc0 vs0 [mm_rf E 136] w (mm_up f 136 0 0) P0) (k1 : ∀ (r : Option Value) (w1 : mm_W) (f1 : mm_F), P0 r w1 f1 → mm_go E Γ 1 9 [(0, mm_rf E 136)] (r.toList ++ []) w1 f1 (ca + vc0) (sa + vs0)) : mm_go E Γ 1 0 [(0, mm_rf E 136)] [] w f ca sa := by
  refine mm_aload_n h d_MD_fault_0 0 rfl rfl ?_
  refine mm_iconst (v := 0) h d_MD_fault_1 (by decide) ?_
  refine mm_puti h fl_MD_56 (Or.inl rfl) rfl rfl rfl (is_MO hw) d_MD_fault_2 ?_
  refine mm_aload_n h d_MD_fault_5 0 rfl rfl ?_
  exact mm_callV (As := []) (rest := []) h m0 cv_MD_116 cm_MD_readPlan hl0 (q0 := _) rfl rfl (is_MO hw) hu0 hz0 rfl rfl (Nat.le_of_ble_eq_true rfl) d_MD_fault_6 (fun r w1 f1 hp => k1 r w1 f1 hp)
theorem s_MD_fault_9 {E : mm_E} {Γ : mm_G} {lev kc ks ca sa : Nat} {w : mm_W} {f : mm_F} (h : mm_ok E Γ b_MD_fault 1 "PlannedTablesModel" lev kc ks) (hw : mm_sh w)  (k0 : 0 ≤ (f 136 11) → mm_go E Γ 1 24 [(0, mm_rf E 136)] [.int (f 136 11)] w f ca sa) (k1 : ¬ 0 ≤ (f 136 11) → mm_go E Γ 1 24 [(0, mm_rf E 136)] [.int (-1)] w f ca sa) : mm_go E Γ 1 9 [(0, mm_rf E 136)] [] w f ca sa := by
  refine mm_aload_n h d_MD_fault_9 0 rfl rfl ?_
  refine mm_geti h fl_MD_85 rfl (is_MO hw) d_MD_fault_10 ?_
  refine mm_if_ge h d_MD_fault_13 (tgt := 20) (by decide) (fun c1 => ?_) (fun c1 => ?_)
  · skip
    refine mm_aload_n h d_MD_fault_20 0 rfl rfl ?_
    refine mm_geti h fl_MD_85 rfl (is_MO hw) d_MD_fault_21 ?_
    exact (k0 c1)
  · skip
    refine mm_iconst (v := (-1)) h d_MD_fault_16 (by decide) ?_
    refine mm_goto h d_MD_fault_17 (tgt := 24) (by decide) ?_
    exact (k1 c1)
theorem s_MD_fault_24 {E : mm_E} {Γ : mm_G} {lev kc ks ca sa : Nat} {w : mm_W} {f : mm_F} {Post : Option Value → mm_W → mm_F → Prop} (h : mm_ok E Γ b_MD_fault 1 "PlannedTablesModel" lev kc ks) (he : mm_end E Γ (some .int) kc ks Post y_MD_fault.name) (hca : ca ≤ kc) (hsa : sa ≤ ks) (hw : mm_sh w) {xk0 : Int32} (k0 : Post (some (.int xk0)) w f) : mm_go E Γ 1 24 [(0, mm_rf E 136)] [.int xk0] w f ca sa := by
  exact mm_iret h he rfl d_MD_fault_24 hca hsa k0
theorem d_MD_width_0 : decode b_MD_width 0 = .ok (.aload_n 0, 1) := by decide +kernel
theorem d_MD_width_1 : decode b_MD_width 1 = .ok (.iconst (0), 1) := by decide +kernel
theorem d_MD_width_2 : decode b_MD_width 2 = .ok (.putfield 56, 3) := by decide +kernel
theorem d_MD_width_5 : decode b_MD_width 5 = .ok (.aload_n 0, 1) := by decide +kernel
theorem d_MD_width_6 : decode b_MD_width 6 = .ok (.invokevirtual 116, 3) := by decide +kernel
theorem d_MD_width_9 : decode b_MD_width 9 = .ok (.aload_n 0, 1) := by decide +kernel
theorem d_MD_width_10 : decode b_MD_width 10 = .ok (.getfield 85, 3) := by decide +kernel
theorem d_MD_width_13 : decode b_MD_width 13 = .ok (.ifCond .ge (10), 3) := by decide +kernel
theorem d_MD_width_16 : decode b_MD_width 16 = .ok (.aload_n 0, 1) := by decide +kernel
theorem d_MD_width_17 : decode b_MD_width 17 = .ok (.getfield 95, 3) := by decide +kernel
theorem d_MD_width_20 : decode b_MD_width 20 = .ok (.goto (4), 3) := by decide +kernel
theorem d_MD_width_23 : decode b_MD_width 23 = .ok (.iconst (-1), 1) := by decide +kernel
theorem d_MD_width_24 : decode b_MD_width 24 = .ok (.ireturn, 1) := by decide +kernel
theorem s_MD_width_0 {E : mm_E} {Γ : mm_G} {lev kc ks ca sa : Nat} {w : mm_W} {f : mm_F} (h : mm_ok E Γ b_MD_width 1 "PlannedTablesModel" lev kc ks) (hw : mm_sh w)  {vl0 vc0 vs0 : Nat} {P0 : Option Value → mm_W → mm_F → Prop} (hl0 : vl0 < lev) (hu0 : ca + vc0 ≤ kc) (hz0 : sa + vs0 ≤ ks) (m0 : mm_C E y_MD_readPlan b_MD_readPlan 3 none vl0 vc0 vs0 [mm_rf E 136] w (mm_up f 136 0 0) P0) (k1 : ∀ (r : Option Value) (w1 : mm_W) (f1 : mm_F), P0 r w1 f1 → mm_go E Γ 1 9 [(0, mm_rf E 136)] (r.toList ++ []) w1 f1 (ca + vc0) (sa + vs0)) : mm_go E Γ 1 0 [(0, mm_rf E 136)] [] w f ca sa := by
  refine mm_aload_n h d_MD_width_0 0 rfl rfl ?_
  refine mm_iconst (v := 0) h d_MD_width_1 (by decide) ?_
  refine mm_puti h fl_MD_56 (Or.inl rfl) rfl rfl rfl (is_MO hw) d_MD_width_2 ?_
  refine mm_aload_n h d_MD_width_5 0 rfl rfl ?_
  exact mm_callV (As := []) (rest := []) h m0 cv_MD_116 cm_MD_readPlan hl0 (q0 := _) rfl rfl (is_MO hw) hu0 hz0 rfl rfl (Nat.le_of_ble_eq_true rfl) d_MD_width_6 (fun r w1 f1 hp => k1 r w1 f1 hp)
theorem s_MD_width_9 {E : mm_E} {Γ : mm_G} {lev kc ks ca sa : Nat} {w : mm_W} {f : mm_F} (h : mm_ok E Γ b_MD_width 1 "PlannedTablesModel" lev kc ks) (hw : mm_sh w)  (k0 : 0 ≤ (f 136 11) → mm_go E Γ 1 24 [(0, mm_rf E 136)] [.int (-1)] w f ca sa) (k1 : ¬ 0 ≤ (f 136 11) → mm_go E Γ 1 24 [(0, mm_rf E 136)] [.int (f 136 15)] w f ca sa) : mm_go E Γ 1 9 [(0, mm_rf E 136)] [] w f ca sa := by
  refine mm_aload_n h d_MD_width_9 0 rfl rfl ?_
  refine mm_geti h fl_MD_85 rfl (is_MO hw) d_MD_width_10 ?_
  refine mm_if_ge h d_MD_width_13 (tgt := 23) (by decide) (fun c1 => ?_) (fun c1 => ?_)
  · skip
    refine mm_iconst (v := (-1)) h d_MD_width_23 (by decide) ?_
    exact (k0 c1)
  · skip
    refine mm_aload_n h d_MD_width_16 0 rfl rfl ?_
    refine mm_geti h fl_MD_95 rfl (is_MO hw) d_MD_width_17 ?_
    refine mm_goto h d_MD_width_20 (tgt := 24) (by decide) ?_
    exact (k1 c1)
theorem s_MD_width_24 {E : mm_E} {Γ : mm_G} {lev kc ks ca sa : Nat} {w : mm_W} {f : mm_F} {Post : Option Value → mm_W → mm_F → Prop} (h : mm_ok E Γ b_MD_width 1 "PlannedTablesModel" lev kc ks) (he : mm_end E Γ (some .int) kc ks Post y_MD_width.name) (hca : ca ≤ kc) (hsa : sa ≤ ks) (hw : mm_sh w) {xk0 : Int32} (k0 : Post (some (.int xk0)) w f) : mm_go E Γ 1 24 [(0, mm_rf E 136)] [.int xk0] w f ca sa := by
  exact mm_iret h he rfl d_MD_width_24 hca hsa k0
theorem d_MD_visit_0 : decode b_MD_visit 0 = .ok (.aload_n 0, 1) := by decide +kernel
theorem d_MD_visit_1 : decode b_MD_visit 1 = .ok (.aload_n 0, 1) := by decide +kernel
theorem d_MD_visit_2 : decode b_MD_visit 2 = .ok (.getfield 119, 3) := by decide +kernel
theorem d_MD_visit_5 : decode b_MD_visit 5 = .ok (.aload_n 0, 1) := by decide +kernel
theorem d_MD_visit_6 : decode b_MD_visit 6 = .ok (.getfield 122, 3) := by decide +kernel
theorem d_MD_visit_9 : decode b_MD_visit 9 = .ok (.if_icmp .ne (7), 3) := by decide +kernel
theorem d_MD_visit_12 : decode b_MD_visit 12 = .ok (.iconst (1), 1) := by decide +kernel
theorem d_MD_visit_13 : decode b_MD_visit 13 = .ok (.goto (4), 3) := by decide +kernel
theorem d_MD_visit_16 : decode b_MD_visit 16 = .ok (.iconst (0), 1) := by decide +kernel
theorem d_MD_visit_17 : decode b_MD_visit 17 = .ok (.putfield 125, 3) := by decide +kernel
theorem d_MD_visit_20 : decode b_MD_visit 20 = .ok (.aload_n 0, 1) := by decide +kernel
theorem d_MD_visit_21 : decode b_MD_visit 21 = .ok (.aload_n 0, 1) := by decide +kernel
theorem d_MD_visit_22 : decode b_MD_visit 22 = .ok (.getfield 125, 3) := by decide +kernel
theorem d_MD_visit_25 : decode b_MD_visit 25 = .ok (.ifCond .eq (10), 3) := by decide +kernel
theorem d_MD_visit_28 : decode b_MD_visit 28 = .ok (.aload_n 0, 1) := by decide +kernel
theorem d_MD_visit_29 : decode b_MD_visit 29 = .ok (.getfield 119, 3) := by decide +kernel
theorem d_MD_visit_32 : decode b_MD_visit 32 = .ok (.goto (9), 3) := by decide +kernel
theorem d_MD_visit_35 : decode b_MD_visit 35 = .ok (.aload_n 0, 1) := by decide +kernel
theorem d_MD_visit_36 : decode b_MD_visit 36 = .ok (.getfield 119, 3) := by decide +kernel
theorem d_MD_visit_39 : decode b_MD_visit 39 = .ok (.iconst (1), 1) := by decide +kernel
theorem d_MD_visit_40 : decode b_MD_visit 40 = .ok (.iadd, 1) := by decide +kernel
theorem d_MD_visit_41 : decode b_MD_visit 41 = .ok (.putfield 119, 3) := by decide +kernel
theorem d_MD_visit_44 : decode b_MD_visit 44 = .ok (.aload_n 0, 1) := by decide +kernel
theorem d_MD_visit_45 : decode b_MD_visit 45 = .ok (.getfield 125, 3) := by decide +kernel
theorem d_MD_visit_48 : decode b_MD_visit 48 = .ok (.ifCond .ne (7), 3) := by decide +kernel
theorem d_MD_visit_51 : decode b_MD_visit 51 = .ok (.iconst (1), 1) := by decide +kernel
theorem d_MD_visit_52 : decode b_MD_visit 52 = .ok (.goto (4), 3) := by decide +kernel
theorem d_MD_visit_55 : decode b_MD_visit 55 = .ok (.iconst (0), 1) := by decide +kernel
theorem d_MD_visit_56 : decode b_MD_visit 56 = .ok (.ireturn, 1) := by decide +kernel
theorem s_MD_visit_0 {E : mm_E} {Γ : mm_G} {lev kc ks ca sa : Nat} {w : mm_W} {f : mm_F} (h : mm_ok E Γ b_MD_visit 1 "PlannedTablesModel" lev kc ks) (hw : mm_sh w)  (k0 : ¬ (f 136 17) = (f 136 16) → mm_go E Γ 1 17 [(0, mm_rf E 136)] [.int 0, mm_rf E 136] w f ca sa) (k1 : (f 136 17) = (f 136 16) → mm_go E Γ 1 17 [(0, mm_rf E 136)] [.int 1, mm_rf E 136] w f ca sa) : mm_go E Γ 1 0 [(0, mm_rf E 136)] [] w f ca sa := by
  refine mm_aload_n h d_MD_visit_0 0 rfl rfl ?_
  refine mm_aload_n h d_MD_visit_1 0 rfl rfl ?_
  refine mm_geti h fl_MD_119 rfl (is_MO hw) d_MD_visit_2 ?_
  refine mm_aload_n h d_MD_visit_5 0 rfl rfl ?_
  refine mm_geti h fl_MD_122 rfl (is_MO hw) d_MD_visit_6 ?_
  refine mm_icmp_ne h d_MD_visit_9 (tgt := 16) (by decide) (fun c1 => ?_) (fun c1 => ?_)
  · skip
    refine mm_iconst (v := 0) h d_MD_visit_16 (by decide) ?_
    exact (k0 c1)
  · skip
    refine mm_iconst (v := 1) h d_MD_visit_12 (by decide) ?_
    refine mm_goto h d_MD_visit_13 (tgt := 17) (by decide) ?_
    exact (k1 c1)
theorem s_MD_visit_17 {E : mm_E} {Γ : mm_G} {lev kc ks ca sa : Nat} {w : mm_W} {f : mm_F} (h : mm_ok E Γ b_MD_visit 1 "PlannedTablesModel" lev kc ks) (hw : mm_sh w) {xk1 : Int32} (n0 : narrow .boolean (.int xk1) = .int xk1) (n1 : fits .boolean (.int xk1) = true) (k2 : ((mm_up f 136 18 xk1) 136 18) = 0 → mm_go E Γ 1 41 [(0, mm_rf E 136)] [.int (((mm_up f 136 18 xk1) 136 17) + 1), mm_rf E 136] w (mm_up f 136 18 xk1) ca sa) (k3 : ¬ ((mm_up f 136 18 xk1) 136 18) = 0 → mm_go E Γ 1 41 [(0, mm_rf E 136)] [.int ((mm_up f 136 18 xk1) 136 17), mm_rf E 136] w (mm_up f 136 18 xk1) ca sa) : mm_go E Γ 1 17 [(0, mm_rf E 136)] [.int xk1, mm_rf E 136] w f ca sa := by
  refine mm_puti h fl_MD_125 (Or.inl rfl) rfl n0 n1 (is_MO hw) d_MD_visit_17 ?_
  refine mm_aload_n h d_MD_visit_20 0 rfl rfl ?_
  refine mm_aload_n h d_MD_visit_21 0 rfl rfl ?_
  refine mm_geti h fl_MD_125 rfl (is_MO hw) d_MD_visit_22 ?_
  refine mm_if_eq h d_MD_visit_25 (tgt := 35) (by decide) (fun c1 => ?_) (fun c1 => ?_)
  · skip
    refine mm_aload_n h d_MD_visit_35 0 rfl rfl ?_
    refine mm_geti h fl_MD_119 rfl (is_MO hw) d_MD_visit_36 ?_
    refine mm_iconst (v := 1) h d_MD_visit_39 (by decide) ?_
    refine mm_iadd h d_MD_visit_40 ?_
    exact (k2 c1)
  · skip
    refine mm_aload_n h d_MD_visit_28 0 rfl rfl ?_
    refine mm_geti h fl_MD_119 rfl (is_MO hw) d_MD_visit_29 ?_
    refine mm_goto h d_MD_visit_32 (tgt := 41) (by decide) ?_
    exact (k3 c1)
theorem s_MD_visit_41 {E : mm_E} {Γ : mm_G} {lev kc ks ca sa : Nat} {w : mm_W} {f : mm_F} (h : mm_ok E Γ b_MD_visit 1 "PlannedTablesModel" lev kc ks) (hw : mm_sh w) {xk1 : Int32} (k0 : ¬ ((mm_up f 136 17 xk1) 136 18) = 0 → mm_go E Γ 1 56 [(0, mm_rf E 136)] [.int 0] w (mm_up f 136 17 xk1) ca sa) (k1 : ((mm_up f 136 17 xk1) 136 18) = 0 → mm_go E Γ 1 56 [(0, mm_rf E 136)] [.int 1] w (mm_up f 136 17 xk1) ca sa) : mm_go E Γ 1 41 [(0, mm_rf E 136)] [.int xk1, mm_rf E 136] w f ca sa := by
  refine mm_puti h fl_MD_119 (Or.inl rfl) rfl rfl rfl (is_MO hw) d_MD_visit_41 ?_
  refine mm_aload_n h d_MD_visit_44 0 rfl rfl ?_
  refine mm_geti h fl_MD_125 rfl (is_MO hw) d_MD_visit_45 ?_
  refine mm_if_ne h d_MD_visit_48 (tgt := 55) (by decide) (fun c1 => ?_) (fun c1 => ?_)
  · skip
    refine mm_iconst (v := 0) h d_MD_visit_55 (by decide) ?_
    exact (k0 c1)
  · skip
    refine mm_iconst (v := 1) h d_MD_visit_51 (by decide) ?_
    refine mm_goto h d_MD_visit_52 (tgt := 56) (by decide) ?_
    exact (k1 c1)
theorem s_MD_visit_56 {E : mm_E} {Γ : mm_G} {lev kc ks ca sa : Nat} {w : mm_W} {f : mm_F} {Post : Option Value → mm_W → mm_F → Prop} (h : mm_ok E Γ b_MD_visit 1 "PlannedTablesModel" lev kc ks) (he : mm_end E Γ (some .boolean) kc ks Post y_MD_visit.name) (hca : ca ≤ kc) (hsa : sa ≤ ks) (hw : mm_sh w) {xk0 : Int32} (k0 : Post (some (.int xk0)) w f) (n1 : narrow .boolean (.int xk0) = .int xk0) : mm_go E Γ 1 56 [(0, mm_rf E 136)] [.int xk0] w f ca sa := by
  exact mm_iret h he n1 d_MD_visit_56 hca hsa k0
theorem d_MD_nextOfSource_0 : decode b_MD_nextOfSource 0 = .ok (.aload_n 0, 1) := by decide +kernel
theorem d_MD_nextOfSource_1 : decode b_MD_nextOfSource 1 = .ok (.getfield 26, 3) := by decide +kernel
theorem d_MD_nextOfSource_4 : decode b_MD_nextOfSource 4 = .ok (.iconst (1), 1) := by decide +kernel
theorem d_MD_nextOfSource_5 : decode b_MD_nextOfSource 5 = .ok (.iaload, 1) := by decide +kernel
theorem d_MD_nextOfSource_6 : decode b_MD_nextOfSource 6 = .ok (.istore_n 1, 1) := by decide +kernel
theorem d_MD_nextOfSource_7 : decode b_MD_nextOfSource 7 = .ok (.aload_n 0, 1) := by decide +kernel
theorem d_MD_nextOfSource_8 : decode b_MD_nextOfSource 8 = .ok (.getfield 29, 3) := by decide +kernel
theorem d_MD_nextOfSource_11 : decode b_MD_nextOfSource 11 = .ok (.iconst (0), 1) := by decide +kernel
theorem d_MD_nextOfSource_12 : decode b_MD_nextOfSource 12 = .ok (.iaload, 1) := by decide +kernel
theorem d_MD_nextOfSource_13 : decode b_MD_nextOfSource 13 = .ok (.iconst (2), 1) := by decide +kernel
theorem d_MD_nextOfSource_14 : decode b_MD_nextOfSource 14 = .ok (.if_icmp .ne (12), 3) := by decide +kernel
theorem d_MD_nextOfSource_17 : decode b_MD_nextOfSource 17 = .ok (.aload_n 0, 1) := by decide +kernel
theorem d_MD_nextOfSource_18 : decode b_MD_nextOfSource 18 = .ok (.getfield 26, 3) := by decide +kernel
theorem d_MD_nextOfSource_21 : decode b_MD_nextOfSource 21 = .ok (.iconst (2), 1) := by decide +kernel
theorem d_MD_nextOfSource_22 : decode b_MD_nextOfSource 22 = .ok (.iaload, 1) := by decide +kernel
theorem d_MD_nextOfSource_23 : decode b_MD_nextOfSource 23 = .ok (.goto (4), 3) := by decide +kernel
theorem d_MD_nextOfSource_26 : decode b_MD_nextOfSource 26 = .ok (.iconst (0), 1) := by decide +kernel
theorem d_MD_nextOfSource_27 : decode b_MD_nextOfSource 27 = .ok (.istore_n 2, 1) := by decide +kernel
theorem d_MD_nextOfSource_28 : decode b_MD_nextOfSource 28 = .ok (.iconst (-1), 1) := by decide +kernel
theorem d_MD_nextOfSource_29 : decode b_MD_nextOfSource 29 = .ok (.istore_n 3, 1) := by decide +kernel
theorem d_MD_nextOfSource_30 : decode b_MD_nextOfSource 30 = .ok (.iconst (0), 1) := by decide +kernel
theorem d_MD_nextOfSource_31 : decode b_MD_nextOfSource 31 = .ok (.istore 4, 2) := by decide +kernel
theorem d_MD_nextOfSource_33 : decode b_MD_nextOfSource 33 = .ok (.iload 4, 2) := by decide +kernel
theorem d_MD_nextOfSource_35 : decode b_MD_nextOfSource 35 = .ok (.aload_n 0, 1) := by decide +kernel
theorem d_MD_nextOfSource_36 : decode b_MD_nextOfSource 36 = .ok (.getfield 71, 3) := by decide +kernel
theorem d_MD_nextOfSource_39 : decode b_MD_nextOfSource 39 = .ok (.if_icmp .ge (200), 3) := by decide +kernel
theorem d_MD_nextOfSource_42 : decode b_MD_nextOfSource 42 = .ok (.aload_n 0, 1) := by decide +kernel
theorem d_MD_nextOfSource_43 : decode b_MD_nextOfSource 43 = .ok (.getfield 23, 3) := by decide +kernel
theorem d_MD_nextOfSource_46 : decode b_MD_nextOfSource 46 = .ok (.iconst (4), 1) := by decide +kernel
theorem d_MD_nextOfSource_47 : decode b_MD_nextOfSource 47 = .ok (.iload 4, 2) := by decide +kernel
theorem d_MD_nextOfSource_49 : decode b_MD_nextOfSource 49 = .ok (.imul, 1) := by decide +kernel
theorem d_MD_nextOfSource_50 : decode b_MD_nextOfSource 50 = .ok (.iload_n 2, 1) := by decide +kernel
theorem d_MD_nextOfSource_51 : decode b_MD_nextOfSource 51 = .ok (.iadd, 1) := by decide +kernel
theorem d_MD_nextOfSource_52 : decode b_MD_nextOfSource 52 = .ok (.iaload, 1) := by decide +kernel
theorem d_MD_nextOfSource_53 : decode b_MD_nextOfSource 53 = .ok (.istore 5, 2) := by decide +kernel
theorem d_MD_nextOfSource_55 : decode b_MD_nextOfSource 55 = .ok (.aload_n 0, 1) := by decide +kernel
theorem d_MD_nextOfSource_56 : decode b_MD_nextOfSource 56 = .ok (.getfield 23, 3) := by decide +kernel
theorem d_MD_nextOfSource_59 : decode b_MD_nextOfSource 59 = .ok (.iconst (4), 1) := by decide +kernel
theorem d_MD_nextOfSource_60 : decode b_MD_nextOfSource 60 = .ok (.iload 4, 2) := by decide +kernel
theorem d_MD_nextOfSource_62 : decode b_MD_nextOfSource 62 = .ok (.imul, 1) := by decide +kernel
theorem d_MD_nextOfSource_63 : decode b_MD_nextOfSource 63 = .ok (.iaload, 1) := by decide +kernel
theorem d_MD_nextOfSource_64 : decode b_MD_nextOfSource 64 = .ok (.istore 6, 2) := by decide +kernel
theorem d_MD_nextOfSource_66 : decode b_MD_nextOfSource 66 = .ok (.aload_n 0, 1) := by decide +kernel
theorem d_MD_nextOfSource_67 : decode b_MD_nextOfSource 67 = .ok (.getfield 29, 3) := by decide +kernel
theorem d_MD_nextOfSource_70 : decode b_MD_nextOfSource 70 = .ok (.iconst (0), 1) := by decide +kernel
theorem d_MD_nextOfSource_71 : decode b_MD_nextOfSource 71 = .ok (.iaload, 1) := by decide +kernel
theorem d_MD_nextOfSource_72 : decode b_MD_nextOfSource 72 = .ok (.iconst (1), 1) := by decide +kernel
theorem d_MD_nextOfSource_73 : decode b_MD_nextOfSource 73 = .ok (.if_icmp .eq (25), 3) := by decide +kernel
theorem d_MD_nextOfSource_76 : decode b_MD_nextOfSource 76 = .ok (.iload 5, 2) := by decide +kernel
theorem d_MD_nextOfSource_78 : decode b_MD_nextOfSource 78 = .ok (.aload_n 0, 1) := by decide +kernel
theorem d_MD_nextOfSource_79 : decode b_MD_nextOfSource 79 = .ok (.getfield 26, 3) := by decide +kernel
theorem d_MD_nextOfSource_82 : decode b_MD_nextOfSource 82 = .ok (.iconst (3), 1) := by decide +kernel
theorem d_MD_nextOfSource_83 : decode b_MD_nextOfSource 83 = .ok (.iaload, 1) := by decide +kernel
theorem d_MD_nextOfSource_84 : decode b_MD_nextOfSource 84 = .ok (.if_icmp .lt (18), 3) := by decide +kernel
theorem d_MD_nextOfSource_87 : decode b_MD_nextOfSource 87 = .ok (.iload 5, 2) := by decide +kernel
theorem d_MD_nextOfSource_89 : decode b_MD_nextOfSource 89 = .ok (.aload_n 0, 1) := by decide +kernel
theorem d_MD_nextOfSource_90 : decode b_MD_nextOfSource 90 = .ok (.getfield 26, 3) := by decide +kernel
theorem d_MD_nextOfSource_93 : decode b_MD_nextOfSource 93 = .ok (.iconst (4), 1) := by decide +kernel
theorem d_MD_nextOfSource_94 : decode b_MD_nextOfSource 94 = .ok (.iaload, 1) := by decide +kernel
theorem d_MD_nextOfSource_95 : decode b_MD_nextOfSource 95 = .ok (.if_icmp .gt (7), 3) := by decide +kernel
theorem d_MD_nextOfSource_98 : decode b_MD_nextOfSource 98 = .ok (.iconst (1), 1) := by decide +kernel
theorem d_MD_nextOfSource_99 : decode b_MD_nextOfSource 99 = .ok (.goto (4), 3) := by decide +kernel
theorem d_MD_nextOfSource_102 : decode b_MD_nextOfSource 102 = .ok (.iconst (0), 1) := by decide +kernel
theorem d_MD_nextOfSource_103 : decode b_MD_nextOfSource 103 = .ok (.istore 7, 2) := by decide +kernel
theorem d_MD_nextOfSource_105 : decode b_MD_nextOfSource 105 = .ok (.aload_n 0, 1) := by decide +kernel
theorem d_MD_nextOfSource_106 : decode b_MD_nextOfSource 106 = .ok (.getfield 129, 3) := by decide +kernel
theorem d_MD_nextOfSource_109 : decode b_MD_nextOfSource 109 = .ok (.ifCond .eq (30), 3) := by decide +kernel
theorem d_MD_nextOfSource_112 : decode b_MD_nextOfSource 112 = .ok (.iload 5, 2) := by decide +kernel
theorem d_MD_nextOfSource_114 : decode b_MD_nextOfSource 114 = .ok (.aload_n 0, 1) := by decide +kernel
theorem d_MD_nextOfSource_115 : decode b_MD_nextOfSource 115 = .ok (.getfield 132, 3) := by decide +kernel
theorem d_MD_nextOfSource_118 : decode b_MD_nextOfSource 118 = .ok (.if_icmp .gt (21), 3) := by decide +kernel
theorem d_MD_nextOfSource_121 : decode b_MD_nextOfSource 121 = .ok (.iload 5, 2) := by decide +kernel
theorem d_MD_nextOfSource_123 : decode b_MD_nextOfSource 123 = .ok (.aload_n 0, 1) := by decide +kernel
theorem d_MD_nextOfSource_124 : decode b_MD_nextOfSource 124 = .ok (.getfield 132, 3) := by decide +kernel
theorem d_MD_nextOfSource_127 : decode b_MD_nextOfSource 127 = .ok (.if_icmp .ne (16), 3) := by decide +kernel
theorem d_MD_nextOfSource_130 : decode b_MD_nextOfSource 130 = .ok (.iload 6, 2) := by decide +kernel
theorem d_MD_nextOfSource_132 : decode b_MD_nextOfSource 132 = .ok (.aload_n 0, 1) := by decide +kernel
theorem d_MD_nextOfSource_133 : decode b_MD_nextOfSource 133 = .ok (.getfield 135, 3) := by decide +kernel
theorem d_MD_nextOfSource_136 : decode b_MD_nextOfSource 136 = .ok (.if_icmp .le (7), 3) := by decide +kernel
theorem d_MD_nextOfSource_139 : decode b_MD_nextOfSource 139 = .ok (.iconst (1), 1) := by decide +kernel
theorem d_MD_nextOfSource_140 : decode b_MD_nextOfSource 140 = .ok (.goto (4), 3) := by decide +kernel
theorem d_MD_nextOfSource_143 : decode b_MD_nextOfSource 143 = .ok (.iconst (0), 1) := by decide +kernel
theorem d_MD_nextOfSource_144 : decode b_MD_nextOfSource 144 = .ok (.istore 8, 2) := by decide +kernel
theorem d_MD_nextOfSource_146 : decode b_MD_nextOfSource 146 = .ok (.iload_n 3, 1) := by decide +kernel
theorem d_MD_nextOfSource_147 : decode b_MD_nextOfSource 147 = .ok (.ifCond .lt (46), 3) := by decide +kernel
theorem d_MD_nextOfSource_150 : decode b_MD_nextOfSource 150 = .ok (.iload 5, 2) := by decide +kernel
theorem d_MD_nextOfSource_152 : decode b_MD_nextOfSource 152 = .ok (.aload_n 0, 1) := by decide +kernel
theorem d_MD_nextOfSource_153 : decode b_MD_nextOfSource 153 = .ok (.getfield 23, 3) := by decide +kernel
theorem d_MD_nextOfSource_156 : decode b_MD_nextOfSource 156 = .ok (.iconst (4), 1) := by decide +kernel
theorem d_MD_nextOfSource_157 : decode b_MD_nextOfSource 157 = .ok (.iload_n 3, 1) := by decide +kernel
theorem d_MD_nextOfSource_158 : decode b_MD_nextOfSource 158 = .ok (.imul, 1) := by decide +kernel
theorem d_MD_nextOfSource_159 : decode b_MD_nextOfSource 159 = .ok (.iload_n 2, 1) := by decide +kernel
theorem d_MD_nextOfSource_160 : decode b_MD_nextOfSource 160 = .ok (.iadd, 1) := by decide +kernel
theorem d_MD_nextOfSource_161 : decode b_MD_nextOfSource 161 = .ok (.iaload, 1) := by decide +kernel
theorem d_MD_nextOfSource_162 : decode b_MD_nextOfSource 162 = .ok (.if_icmp .lt (31), 3) := by decide +kernel
theorem d_MD_nextOfSource_165 : decode b_MD_nextOfSource 165 = .ok (.iload 5, 2) := by decide +kernel
theorem d_MD_nextOfSource_167 : decode b_MD_nextOfSource 167 = .ok (.aload_n 0, 1) := by decide +kernel
theorem d_MD_nextOfSource_168 : decode b_MD_nextOfSource 168 = .ok (.getfield 23, 3) := by decide +kernel
theorem d_MD_nextOfSource_171 : decode b_MD_nextOfSource 171 = .ok (.iconst (4), 1) := by decide +kernel
theorem d_MD_nextOfSource_172 : decode b_MD_nextOfSource 172 = .ok (.iload_n 3, 1) := by decide +kernel
theorem d_MD_nextOfSource_173 : decode b_MD_nextOfSource 173 = .ok (.imul, 1) := by decide +kernel
theorem d_MD_nextOfSource_174 : decode b_MD_nextOfSource 174 = .ok (.iload_n 2, 1) := by decide +kernel
theorem d_MD_nextOfSource_175 : decode b_MD_nextOfSource 175 = .ok (.iadd, 1) := by decide +kernel
theorem d_MD_nextOfSource_176 : decode b_MD_nextOfSource 176 = .ok (.iaload, 1) := by decide +kernel
theorem d_MD_nextOfSource_177 : decode b_MD_nextOfSource 177 = .ok (.if_icmp .ne (20), 3) := by decide +kernel
theorem d_MD_nextOfSource_180 : decode b_MD_nextOfSource 180 = .ok (.iload 6, 2) := by decide +kernel
theorem d_MD_nextOfSource_182 : decode b_MD_nextOfSource 182 = .ok (.aload_n 0, 1) := by decide +kernel
theorem d_MD_nextOfSource_183 : decode b_MD_nextOfSource 183 = .ok (.getfield 23, 3) := by decide +kernel
theorem d_MD_nextOfSource_186 : decode b_MD_nextOfSource 186 = .ok (.iconst (4), 1) := by decide +kernel
theorem d_MD_nextOfSource_187 : decode b_MD_nextOfSource 187 = .ok (.iload_n 3, 1) := by decide +kernel
theorem d_MD_nextOfSource_188 : decode b_MD_nextOfSource 188 = .ok (.imul, 1) := by decide +kernel
theorem d_MD_nextOfSource_189 : decode b_MD_nextOfSource 189 = .ok (.iaload, 1) := by decide +kernel
theorem d_MD_nextOfSource_190 : decode b_MD_nextOfSource 190 = .ok (.if_icmp .ge (7), 3) := by decide +kernel
theorem d_MD_nextOfSource_193 : decode b_MD_nextOfSource 193 = .ok (.iconst (1), 1) := by decide +kernel
theorem d_MD_nextOfSource_194 : decode b_MD_nextOfSource 194 = .ok (.goto (4), 3) := by decide +kernel
theorem d_MD_nextOfSource_197 : decode b_MD_nextOfSource 197 = .ok (.iconst (0), 1) := by decide +kernel
theorem d_MD_nextOfSource_198 : decode b_MD_nextOfSource 198 = .ok (.istore 9, 2) := by decide +kernel
theorem d_MD_nextOfSource_200 : decode b_MD_nextOfSource 200 = .ok (.aload_n 0, 1) := by decide +kernel
theorem d_MD_nextOfSource_201 : decode b_MD_nextOfSource 201 = .ok (.getfield 20, 3) := by decide +kernel
theorem d_MD_nextOfSource_204 : decode b_MD_nextOfSource 204 = .ok (.iload 4, 2) := by decide +kernel
theorem d_MD_nextOfSource_206 : decode b_MD_nextOfSource 206 = .ok (.iaload, 1) := by decide +kernel
theorem d_MD_nextOfSource_207 : decode b_MD_nextOfSource 207 = .ok (.iload_n 1, 1) := by decide +kernel
theorem d_MD_nextOfSource_208 : decode b_MD_nextOfSource 208 = .ok (.if_icmp .ne (23), 3) := by decide +kernel
theorem d_MD_nextOfSource_211 : decode b_MD_nextOfSource 211 = .ok (.iload 7, 2) := by decide +kernel
theorem d_MD_nextOfSource_213 : decode b_MD_nextOfSource 213 = .ok (.ifCond .eq (18), 3) := by decide +kernel
theorem d_MD_nextOfSource_216 : decode b_MD_nextOfSource 216 = .ok (.iload 8, 2) := by decide +kernel
theorem d_MD_nextOfSource_218 : decode b_MD_nextOfSource 218 = .ok (.ifCond .eq (13), 3) := by decide +kernel
theorem d_MD_nextOfSource_221 : decode b_MD_nextOfSource 221 = .ok (.iload 9, 2) := by decide +kernel
theorem d_MD_nextOfSource_223 : decode b_MD_nextOfSource 223 = .ok (.ifCond .eq (8), 3) := by decide +kernel
theorem d_MD_nextOfSource_226 : decode b_MD_nextOfSource 226 = .ok (.iload 4, 2) := by decide +kernel
theorem d_MD_nextOfSource_228 : decode b_MD_nextOfSource 228 = .ok (.goto (4), 3) := by decide +kernel
theorem d_MD_nextOfSource_231 : decode b_MD_nextOfSource 231 = .ok (.iload_n 3, 1) := by decide +kernel
theorem d_MD_nextOfSource_232 : decode b_MD_nextOfSource 232 = .ok (.istore_n 3, 1) := by decide +kernel
theorem d_MD_nextOfSource_233 : decode b_MD_nextOfSource 233 = .ok (.iinc 4 (1), 3) := by decide +kernel
theorem d_MD_nextOfSource_236 : decode b_MD_nextOfSource 236 = .ok (.goto (-203), 3) := by decide +kernel
theorem d_MD_nextOfSource_239 : decode b_MD_nextOfSource 239 = .ok (.iload_n 3, 1) := by decide +kernel
theorem d_MD_nextOfSource_240 : decode b_MD_nextOfSource 240 = .ok (.ifCond .lt (34), 3) := by decide +kernel
theorem d_MD_nextOfSource_243 : decode b_MD_nextOfSource 243 = .ok (.aload_n 0, 1) := by decide +kernel
theorem d_MD_nextOfSource_244 : decode b_MD_nextOfSource 244 = .ok (.aload_n 0, 1) := by decide +kernel
theorem d_MD_nextOfSource_245 : decode b_MD_nextOfSource 245 = .ok (.getfield 23, 3) := by decide +kernel
theorem d_MD_nextOfSource_248 : decode b_MD_nextOfSource 248 = .ok (.iconst (4), 1) := by decide +kernel
theorem d_MD_nextOfSource_249 : decode b_MD_nextOfSource 249 = .ok (.iload_n 3, 1) := by decide +kernel
theorem d_MD_nextOfSource_250 : decode b_MD_nextOfSource 250 = .ok (.imul, 1) := by decide +kernel
theorem d_MD_nextOfSource_251 : decode b_MD_nextOfSource 251 = .ok (.iload_n 2, 1) := by decide +kernel
theorem d_MD_nextOfSource_252 : decode b_MD_nextOfSource 252 = .ok (.iadd, 1) := by decide +kernel
theorem d_MD_nextOfSource_253 : decode b_MD_nextOfSource 253 = .ok (.iaload, 1) := by decide +kernel
theorem d_MD_nextOfSource_254 : decode b_MD_nextOfSource 254 = .ok (.putfield 132, 3) := by decide +kernel
theorem d_MD_nextOfSource_257 : decode b_MD_nextOfSource 257 = .ok (.aload_n 0, 1) := by decide +kernel
theorem d_MD_nextOfSource_258 : decode b_MD_nextOfSource 258 = .ok (.aload_n 0, 1) := by decide +kernel
theorem d_MD_nextOfSource_259 : decode b_MD_nextOfSource 259 = .ok (.getfield 23, 3) := by decide +kernel
theorem d_MD_nextOfSource_262 : decode b_MD_nextOfSource 262 = .ok (.iconst (4), 1) := by decide +kernel
theorem d_MD_nextOfSource_263 : decode b_MD_nextOfSource 263 = .ok (.iload_n 3, 1) := by decide +kernel
theorem d_MD_nextOfSource_264 : decode b_MD_nextOfSource 264 = .ok (.imul, 1) := by decide +kernel
theorem d_MD_nextOfSource_265 : decode b_MD_nextOfSource 265 = .ok (.iaload, 1) := by decide +kernel
theorem d_MD_nextOfSource_266 : decode b_MD_nextOfSource 266 = .ok (.putfield 135, 3) := by decide +kernel
theorem d_MD_nextOfSource_269 : decode b_MD_nextOfSource 269 = .ok (.aload_n 0, 1) := by decide +kernel
theorem d_MD_nextOfSource_270 : decode b_MD_nextOfSource 270 = .ok (.iconst (1), 1) := by decide +kernel
theorem d_MD_nextOfSource_271 : decode b_MD_nextOfSource 271 = .ok (.putfield 129, 3) := by decide +kernel
theorem d_MD_nextOfSource_274 : decode b_MD_nextOfSource 274 = .ok (.iload_n 3, 1) := by decide +kernel
theorem d_MD_nextOfSource_275 : decode b_MD_nextOfSource 275 = .ok (.ireturn, 1) := by decide +kernel
theorem s_MD_nextOfSource_0 {E : mm_E} {Γ : mm_G} {lev kc ks ca sa : Nat} {w : mm_W} {f : mm_F} (h : mm_ok E Γ b_MD_nextOfSource 10 "PlannedTablesModel" lev kc ks) (hw : mm_sh w)  (k0 : ¬ (f 143 0) = 2 → mm_go E Γ 10 27 [(0, mm_rf E 136), (1, .int (f 142 1))] [.int 0] w f ca sa) (k1 : (f 143 0) = 2 → mm_go E Γ 10 27 [(0, mm_rf E 136), (1, .int (f 142 1))] [.int (f 142 2)] w f ca sa) : mm_go E Γ 10 0 [(0, mm_rf E 136)] [] w f ca sa := by
  refine mm_aload_n h d_MD_nextOfSource_0 0 rfl rfl ?_
  refine mm_getr h fl_MD_26 rfl (is_MO hw) (rf_MO_plan hw) (is_Mplan hw).1.1 d_MD_nextOfSource_1 ?_
  refine mm_iconst (v := 1) h d_MD_nextOfSource_4 (by decide) ?_
  refine mm_iald h (is_Mplan hw) (by unfold vp_in; decide) d_MD_nextOfSource_5 ?_
  refine mm_istore_n (lv' := [(1, .int (f 142 1)), (0, mm_rf E 136)]) h d_MD_nextOfSource_6 rfl (by decide) rfl ?_
  refine mm_aload_n h d_MD_nextOfSource_7 1 rfl rfl ?_
  refine mm_getr h fl_MD_29 rfl (is_MO hw) (rf_MO_ops hw) (is_Mops hw).1.1 d_MD_nextOfSource_8 ?_
  refine mm_iconst (v := 0) h d_MD_nextOfSource_11 (by decide) ?_
  refine mm_iald h (is_Mops hw) (by unfold vp_in; decide) d_MD_nextOfSource_12 ?_
  refine mm_iconst (v := 2) h d_MD_nextOfSource_13 (by decide) ?_
  refine mm_icmp_ne h d_MD_nextOfSource_14 (tgt := 26) (by decide) (fun c1 => ?_) (fun c1 => ?_)
  · skip
    refine mm_iconst (v := 0) h d_MD_nextOfSource_26 (by decide) ?_
    refine mm_sub [1, 0] rfl ?_
    exact (k0 c1)
  · skip
    refine mm_aload_n h d_MD_nextOfSource_17 1 rfl rfl ?_
    refine mm_getr h fl_MD_26 rfl (is_MO hw) (rf_MO_plan hw) (is_Mplan hw).1.1 d_MD_nextOfSource_18 ?_
    refine mm_iconst (v := 2) h d_MD_nextOfSource_21 (by decide) ?_
    refine mm_iald h (is_Mplan hw) (by unfold vp_in; decide) d_MD_nextOfSource_22 ?_
    refine mm_goto h d_MD_nextOfSource_23 (tgt := 27) (by decide) ?_
    refine mm_sub [1, 0] rfl ?_
    exact (k1 c1)
theorem s_MD_nextOfSource_27 {E : mm_E} {Γ : mm_G} {lev kc ks ca sa : Nat} {w : mm_W} {f : mm_F} (h : mm_ok E Γ b_MD_nextOfSource 10 "PlannedTablesModel" lev kc ks) (hw : mm_sh w) {x1 : Int32} {xk0 : Int32} (k0 : mm_go E Γ 10 33 [(0, mm_rf E 136), (1, .int x1), (2, .int xk0), (3, .int (-1)), (4, .int 0)] [] w f ca sa) : mm_go E Γ 10 27 [(0, mm_rf E 136), (1, .int x1)] [.int xk0] w f ca sa := by
  refine mm_istore_n (lv' := [(2, .int xk0), (0, mm_rf E 136), (1, .int x1)]) h d_MD_nextOfSource_27 rfl (by decide) rfl ?_
  refine mm_iconst (v := (-1)) h d_MD_nextOfSource_28 (by decide) ?_
  refine mm_istore_n (lv' := [(3, .int (-1)), (2, .int xk0), (0, mm_rf E 136), (1, .int x1)]) h d_MD_nextOfSource_29 rfl (by decide) rfl ?_
  refine mm_iconst (v := 0) h d_MD_nextOfSource_30 (by decide) ?_
  refine mm_istore (lv' := [(4, .int 0), (3, .int (-1)), (2, .int xk0), (0, mm_rf E 136), (1, .int x1)]) h d_MD_nextOfSource_31 (by decide) rfl ?_
  refine mm_sub [3, 4, 2, 1, 0] rfl ?_
  exact k0
theorem s_MD_nextOfSource_33 {E : mm_E} {Γ : mm_G} {lev kc ks ca sa : Nat} {w : mm_W} {f : mm_F} (h : mm_ok E Γ b_MD_nextOfSource 10 "PlannedTablesModel" lev kc ks) (hw : mm_sh w) {x1 : Int32} {x2 : Int32} {x3 : Int32} {x4 : Int32} (k0 : (f 136 5) ≤ x4 → x3 < 0 → mm_go E Γ 10 274 [(0, mm_rf E 136), (1, .int x1), (2, .int x2), (3, .int x3), (4, .int x4)] [] w f ca sa) (b1 : (f 136 5) ≤ x4 → ¬ x3 < 0 → vp_in ((4 * x3) + x2) 192) (b2 : (f 136 5) ≤ x4 → ¬ x3 < 0 → vp_in (4 * x3) 192) (k3 : (f 136 5) ≤ x4 → ¬ x3 < 0 → mm_go E Γ 10 274 [(0, mm_rf E 136), (1, .int x1), (2, .int x2), (3, .int x3), (4, .int x4)] [] w (mm_up (mm_up (mm_up f 136 26 (f 141 (((4 * x3) + x2)).toNatClampNeg)) 136 27 ((mm_up f 136 26 (f 141 (((4 * x3) + x2)).toNatClampNeg)) 141 ((4 * x3)).toNatClampNeg)) 136 28 1) ca sa) (b4 : ¬ (f 136 5) ≤ x4 → vp_in ((4 * x4) + x2) 192) (b5 : ¬ (f 136 5) ≤ x4 → vp_in (4 * x4) 192) (k6 : ¬ (f 136 5) ≤ x4 → (f 143 0) = 1 → mm_go E Γ 10 98 [(0, mm_rf E 136), (1, .int x1), (2, .int x2), (3, .int x3), (4, .int x4), (5, .int (f 141 (((4 * x4) + x2)).toNatClampNeg)), (6, .int (f 141 ((4 * x4)).toNatClampNeg))] [] w f ca sa) (k7 : ¬ (f 136 5) ≤ x4 → ¬ (f 143 0) = 1 → (f 141 (((4 * x4) + x2)).toNatClampNeg) < (f 142 3) → mm_go E Γ 10 102 [(0, mm_rf E 136), (1, .int x1), (2, .int x2), (3, .int x3), (4, .int x4), (5, .int (f 141 (((4 * x4) + x2)).toNatClampNeg)), (6, .int (f 141 ((4 * x4)).toNatClampNeg))] [] w f ca sa) (k8 : ¬ (f 136 5) ≤ x4 → ¬ (f 143 0) = 1 → ¬ (f 141 (((4 * x4) + x2)).toNatClampNeg) < (f 142 3) → (f 142 4) < (f 141 (((4 * x4) + x2)).toNatClampNeg) → mm_go E Γ 10 102 [(0, mm_rf E 136), (1, .int x1), (2, .int x2), (3, .int x3), (4, .int x4), (5, .int (f 141 (((4 * x4) + x2)).toNatClampNeg)), (6, .int (f 141 ((4 * x4)).toNatClampNeg))] [] w f ca sa) (k9 : ¬ (f 136 5) ≤ x4 → ¬ (f 143 0) = 1 → ¬ (f 141 (((4 * x4) + x2)).toNatClampNeg) < (f 142 3) → ¬ (f 142 4) < (f 141 (((4 * x4) + x2)).toNatClampNeg) → mm_go E Γ 10 98 [(0, mm_rf E 136), (1, .int x1), (2, .int x2), (3, .int x3), (4, .int x4), (5, .int (f 141 (((4 * x4) + x2)).toNatClampNeg)), (6, .int (f 141 ((4 * x4)).toNatClampNeg))] [] w f ca sa) : mm_go E Γ 10 33 [(0, mm_rf E 136), (1, .int x1), (2, .int x2), (3, .int x3), (4, .int x4)] [] w f ca sa := by
  refine mm_iload h d_MD_nextOfSource_33 4 rfl ?_
  refine mm_aload_n h d_MD_nextOfSource_35 0 rfl rfl ?_
  refine mm_geti h fl_MD_71 rfl (is_MO hw) d_MD_nextOfSource_36 ?_
  refine mm_icmp_ge h d_MD_nextOfSource_39 (tgt := 239) (by decide) (fun c1 => ?_) (fun c1 => ?_)
  · skip
    refine mm_iload_n h d_MD_nextOfSource_239 3 rfl rfl ?_
    refine mm_if_lt h d_MD_nextOfSource_240 (tgt := 274) (by decide) (fun c2 => ?_) (fun c2 => ?_)
    · skip
      exact (k0 c1 c2)
    · skip
      refine mm_aload_n h d_MD_nextOfSource_243 0 rfl rfl ?_
      refine mm_aload_n h d_MD_nextOfSource_244 0 rfl rfl ?_
      refine mm_getr h fl_MD_23 rfl (is_MO hw) (rf_MO_cells hw) (is_Mcells hw).1.1 d_MD_nextOfSource_245 ?_
      refine mm_iconst (v := 4) h d_MD_nextOfSource_248 (by decide) ?_
      refine mm_iload_n h d_MD_nextOfSource_249 3 rfl rfl ?_
      refine mm_imul h d_MD_nextOfSource_250 ?_
      refine mm_iload_n h d_MD_nextOfSource_251 2 rfl rfl ?_
      refine mm_iadd h d_MD_nextOfSource_252 ?_
      refine mm_iald h (is_Mcells hw) (b1 c1 c2) d_MD_nextOfSource_253 ?_
      refine mm_puti h fl_MD_132 (Or.inl rfl) rfl rfl rfl (is_MO hw) d_MD_nextOfSource_254 ?_
      refine mm_aload_n h d_MD_nextOfSource_257 0 rfl rfl ?_
      refine mm_aload_n h d_MD_nextOfSource_258 0 rfl rfl ?_
      refine mm_getr h fl_MD_23 rfl (is_MO hw) (rf_MO_cells hw) (is_Mcells hw).1.1 d_MD_nextOfSource_259 ?_
      refine mm_iconst (v := 4) h d_MD_nextOfSource_262 (by decide) ?_
      refine mm_iload_n h d_MD_nextOfSource_263 3 rfl rfl ?_
      refine mm_imul h d_MD_nextOfSource_264 ?_
      refine mm_iald h (is_Mcells hw) (b2 c1 c2) d_MD_nextOfSource_265 ?_
      refine mm_puti h fl_MD_135 (Or.inl rfl) rfl rfl rfl (is_MO hw) d_MD_nextOfSource_266 ?_
      refine mm_aload_n h d_MD_nextOfSource_269 0 rfl rfl ?_
      refine mm_iconst (v := 1) h d_MD_nextOfSource_270 (by decide) ?_
      refine mm_puti h fl_MD_129 (Or.inl rfl) rfl rfl rfl (is_MO hw) d_MD_nextOfSource_271 ?_
      exact (k3 c1 c2)
  · skip
    refine mm_aload_n h d_MD_nextOfSource_42 0 rfl rfl ?_
    refine mm_getr h fl_MD_23 rfl (is_MO hw) (rf_MO_cells hw) (is_Mcells hw).1.1 d_MD_nextOfSource_43 ?_
    refine mm_iconst (v := 4) h d_MD_nextOfSource_46 (by decide) ?_
    refine mm_iload h d_MD_nextOfSource_47 4 rfl ?_
    refine mm_imul h d_MD_nextOfSource_49 ?_
    refine mm_iload_n h d_MD_nextOfSource_50 2 rfl rfl ?_
    refine mm_iadd h d_MD_nextOfSource_51 ?_
    refine mm_iald h (is_Mcells hw) (b4 c1) d_MD_nextOfSource_52 ?_
    refine mm_istore (lv' := [(5, .int (f 141 (((4 * x4) + x2)).toNatClampNeg)), (0, mm_rf E 136), (1, .int x1), (2, .int x2), (3, .int x3), (4, .int x4)]) h d_MD_nextOfSource_53 (by decide) rfl ?_
    refine mm_aload_n h d_MD_nextOfSource_55 1 rfl rfl ?_
    refine mm_getr h fl_MD_23 rfl (is_MO hw) (rf_MO_cells hw) (is_Mcells hw).1.1 d_MD_nextOfSource_56 ?_
    refine mm_iconst (v := 4) h d_MD_nextOfSource_59 (by decide) ?_
    refine mm_iload h d_MD_nextOfSource_60 5 rfl ?_
    refine mm_imul h d_MD_nextOfSource_62 ?_
    refine mm_iald h (is_Mcells hw) (b5 c1) d_MD_nextOfSource_63 ?_
    refine mm_istore (lv' := [(6, .int (f 141 ((4 * x4)).toNatClampNeg)), (5, .int (f 141 (((4 * x4) + x2)).toNatClampNeg)), (0, mm_rf E 136), (1, .int x1), (2, .int x2), (3, .int x3), (4, .int x4)]) h d_MD_nextOfSource_64 (by decide) rfl ?_
    refine mm_aload_n h d_MD_nextOfSource_66 2 rfl rfl ?_
    refine mm_getr h fl_MD_29 rfl (is_MO hw) (rf_MO_ops hw) (is_Mops hw).1.1 d_MD_nextOfSource_67 ?_
    refine mm_iconst (v := 0) h d_MD_nextOfSource_70 (by decide) ?_
    refine mm_iald h (is_Mops hw) (by unfold vp_in; decide) d_MD_nextOfSource_71 ?_
    refine mm_iconst (v := 1) h d_MD_nextOfSource_72 (by decide) ?_
    refine mm_icmp_eq h d_MD_nextOfSource_73 (tgt := 98) (by decide) (fun c2 => ?_) (fun c2 => ?_)
    · skip
      refine mm_sub [2, 3, 4, 5, 6, 1, 0] rfl ?_
      exact (k6 c1 c2)
    · skip
      refine mm_iload h d_MD_nextOfSource_76 1 rfl ?_
      refine mm_aload_n h d_MD_nextOfSource_78 2 rfl rfl ?_
      refine mm_getr h fl_MD_26 rfl (is_MO hw) (rf_MO_plan hw) (is_Mplan hw).1.1 d_MD_nextOfSource_79 ?_
      refine mm_iconst (v := 3) h d_MD_nextOfSource_82 (by decide) ?_
      refine mm_iald h (is_Mplan hw) (by unfold vp_in; decide) d_MD_nextOfSource_83 ?_
      refine mm_icmp_lt h d_MD_nextOfSource_84 (tgt := 102) (by decide) (fun c3 => ?_) (fun c3 => ?_)
      · skip
        refine mm_sub [2, 3, 4, 5, 6, 1, 0] rfl ?_
        exact (k7 c1 c2 c3)
      · skip
        refine mm_iload h d_MD_nextOfSource_87 1 rfl ?_
        refine mm_aload_n h d_MD_nextOfSource_89 2 rfl rfl ?_
        refine mm_getr h fl_MD_26 rfl (is_MO hw) (rf_MO_plan hw) (is_Mplan hw).1.1 d_MD_nextOfSource_90 ?_
        refine mm_iconst (v := 4) h d_MD_nextOfSource_93 (by decide) ?_
        refine mm_iald h (is_Mplan hw) (by unfold vp_in; decide) d_MD_nextOfSource_94 ?_
        refine mm_icmp_gt h d_MD_nextOfSource_95 (tgt := 102) (by decide) (fun c4 => ?_) (fun c4 => ?_)
        · skip
          refine mm_sub [2, 3, 4, 5, 6, 1, 0] rfl ?_
          exact (k8 c1 c2 c3 c4)
        · skip
          refine mm_sub [2, 3, 4, 5, 6, 1, 0] rfl ?_
          exact (k9 c1 c2 c3 c4)
theorem s_MD_nextOfSource_98 {E : mm_E} {Γ : mm_G} {lev kc ks ca sa : Nat} {w : mm_W} {f : mm_F} (h : mm_ok E Γ b_MD_nextOfSource 10 "PlannedTablesModel" lev kc ks) (hw : mm_sh w) {x1 : Int32} {x2 : Int32} {x3 : Int32} {x4 : Int32} {x5 : Int32} {x6 : Int32} (k0 : mm_go E Γ 10 103 [(0, mm_rf E 136), (1, .int x1), (2, .int x2), (3, .int x3), (4, .int x4), (5, .int x5), (6, .int x6)] [.int 1] w f ca sa) : mm_go E Γ 10 98 [(0, mm_rf E 136), (1, .int x1), (2, .int x2), (3, .int x3), (4, .int x4), (5, .int x5), (6, .int x6)] [] w f ca sa := by
  refine mm_iconst (v := 1) h d_MD_nextOfSource_98 (by decide) ?_
  refine mm_goto h d_MD_nextOfSource_99 (tgt := 103) (by decide) ?_
  exact k0
theorem s_MD_nextOfSource_102 {E : mm_E} {Γ : mm_G} {lev kc ks ca sa : Nat} {w : mm_W} {f : mm_F} (h : mm_ok E Γ b_MD_nextOfSource 10 "PlannedTablesModel" lev kc ks) (hw : mm_sh w) {x1 : Int32} {x2 : Int32} {x3 : Int32} {x4 : Int32} {x5 : Int32} {x6 : Int32} (k0 : mm_go E Γ 10 103 [(0, mm_rf E 136), (1, .int x1), (2, .int x2), (3, .int x3), (4, .int x4), (5, .int x5), (6, .int x6)] [.int 0] w f ca sa) : mm_go E Γ 10 102 [(0, mm_rf E 136), (1, .int x1), (2, .int x2), (3, .int x3), (4, .int x4), (5, .int x5), (6, .int x6)] [] w f ca sa := by
  refine mm_iconst (v := 0) h d_MD_nextOfSource_102 (by decide) ?_
  exact k0
theorem s_MD_nextOfSource_103 {E : mm_E} {Γ : mm_G} {lev kc ks ca sa : Nat} {w : mm_W} {f : mm_F} (h : mm_ok E Γ b_MD_nextOfSource 10 "PlannedTablesModel" lev kc ks) (hw : mm_sh w) {x1 : Int32} {x2 : Int32} {x3 : Int32} {x4 : Int32} {x5 : Int32} {x6 : Int32} {xk0 : Int32} (k0 : (f 136 28) = 0 → mm_go E Γ 10 139 [(0, mm_rf E 136), (1, .int x1), (2, .int x2), (3, .int x3), (4, .int x4), (5, .int x5), (6, .int x6), (7, .int xk0)] [] w f ca sa) (k1 : ¬ (f 136 28) = 0 → (f 136 26) < x5 → mm_go E Γ 10 139 [(0, mm_rf E 136), (1, .int x1), (2, .int x2), (3, .int x3), (4, .int x4), (5, .int x5), (6, .int x6), (7, .int xk0)] [] w f ca sa) (k2 : ¬ (f 136 28) = 0 → ¬ (f 136 26) < x5 → ¬ x5 = (f 136 26) → mm_go E Γ 10 143 [(0, mm_rf E 136), (1, .int x1), (2, .int x2), (3, .int x3), (4, .int x4), (5, .int x5), (6, .int x6), (7, .int xk0)] [] w f ca sa) (k3 : ¬ (f 136 28) = 0 → ¬ (f 136 26) < x5 → x5 = (f 136 26) → x6 ≤ (f 136 27) → mm_go E Γ 10 143 [(0, mm_rf E 136), (1, .int x1), (2, .int x2), (3, .int x3), (4, .int x4), (5, .int x5), (6, .int x6), (7, .int xk0)] [] w f ca sa) (k4 : ¬ (f 136 28) = 0 → ¬ (f 136 26) < x5 → x5 = (f 136 26) → ¬ x6 ≤ (f 136 27) → mm_go E Γ 10 139 [(0, mm_rf E 136), (1, .int x1), (2, .int x2), (3, .int x3), (4, .int x4), (5, .int x5), (6, .int x6), (7, .int xk0)] [] w f ca sa) : mm_go E Γ 10 103 [(0, mm_rf E 136), (1, .int x1), (2, .int x2), (3, .int x3), (4, .int x4), (5, .int x5), (6, .int x6)] [.int xk0] w f ca sa := by
  refine mm_istore (lv' := [(7, .int xk0), (0, mm_rf E 136), (1, .int x1), (2, .int x2), (3, .int x3), (4, .int x4), (5, .int x5), (6, .int x6)]) h d_MD_nextOfSource_103 (by decide) rfl ?_
  refine mm_aload_n h d_MD_nextOfSource_105 1 rfl rfl ?_
  refine mm_geti h fl_MD_129 rfl (is_MO hw) d_MD_nextOfSource_106 ?_
  refine mm_if_eq h d_MD_nextOfSource_109 (tgt := 139) (by decide) (fun c1 => ?_) (fun c1 => ?_)
  · skip
    refine mm_sub [1, 2, 3, 4, 5, 6, 7, 0] rfl ?_
    exact (k0 c1)
  · skip
    refine mm_iload h d_MD_nextOfSource_112 6 rfl ?_
    refine mm_aload_n h d_MD_nextOfSource_114 1 rfl rfl ?_
    refine mm_geti h fl_MD_132 rfl (is_MO hw) d_MD_nextOfSource_115 ?_
    refine mm_icmp_gt h d_MD_nextOfSource_118 (tgt := 139) (by decide) (fun c2 => ?_) (fun c2 => ?_)
    · skip
      refine mm_sub [1, 2, 3, 4, 5, 6, 7, 0] rfl ?_
      exact (k1 c1 c2)
    · skip
      refine mm_iload h d_MD_nextOfSource_121 6 rfl ?_
      refine mm_aload_n h d_MD_nextOfSource_123 1 rfl rfl ?_
      refine mm_geti h fl_MD_132 rfl (is_MO hw) d_MD_nextOfSource_124 ?_
      refine mm_icmp_ne h d_MD_nextOfSource_127 (tgt := 143) (by decide) (fun c3 => ?_) (fun c3 => ?_)
      · skip
        refine mm_sub [1, 2, 3, 4, 5, 6, 7, 0] rfl ?_
        exact (k2 c1 c2 c3)
      · skip
        refine mm_iload h d_MD_nextOfSource_130 7 rfl ?_
        refine mm_aload_n h d_MD_nextOfSource_132 1 rfl rfl ?_
        refine mm_geti h fl_MD_135 rfl (is_MO hw) d_MD_nextOfSource_133 ?_
        refine mm_icmp_le h d_MD_nextOfSource_136 (tgt := 143) (by decide) (fun c4 => ?_) (fun c4 => ?_)
        · skip
          refine mm_sub [1, 2, 3, 4, 5, 6, 7, 0] rfl ?_
          exact (k3 c1 c2 c3 c4)
        · skip
          refine mm_sub [1, 2, 3, 4, 5, 6, 7, 0] rfl ?_
          exact (k4 c1 c2 c3 c4)
theorem s_MD_nextOfSource_139 {E : mm_E} {Γ : mm_G} {lev kc ks ca sa : Nat} {w : mm_W} {f : mm_F} (h : mm_ok E Γ b_MD_nextOfSource 10 "PlannedTablesModel" lev kc ks) (hw : mm_sh w) {x1 : Int32} {x2 : Int32} {x3 : Int32} {x4 : Int32} {x5 : Int32} {x6 : Int32} {x7 : Int32} (k0 : mm_go E Γ 10 144 [(0, mm_rf E 136), (1, .int x1), (2, .int x2), (3, .int x3), (4, .int x4), (5, .int x5), (6, .int x6), (7, .int x7)] [.int 1] w f ca sa) : mm_go E Γ 10 139 [(0, mm_rf E 136), (1, .int x1), (2, .int x2), (3, .int x3), (4, .int x4), (5, .int x5), (6, .int x6), (7, .int x7)] [] w f ca sa := by
  refine mm_iconst (v := 1) h d_MD_nextOfSource_139 (by decide) ?_
  refine mm_goto h d_MD_nextOfSource_140 (tgt := 144) (by decide) ?_
  exact k0
theorem s_MD_nextOfSource_143 {E : mm_E} {Γ : mm_G} {lev kc ks ca sa : Nat} {w : mm_W} {f : mm_F} (h : mm_ok E Γ b_MD_nextOfSource 10 "PlannedTablesModel" lev kc ks) (hw : mm_sh w) {x1 : Int32} {x2 : Int32} {x3 : Int32} {x4 : Int32} {x5 : Int32} {x6 : Int32} {x7 : Int32} (k0 : mm_go E Γ 10 144 [(0, mm_rf E 136), (1, .int x1), (2, .int x2), (3, .int x3), (4, .int x4), (5, .int x5), (6, .int x6), (7, .int x7)] [.int 0] w f ca sa) : mm_go E Γ 10 143 [(0, mm_rf E 136), (1, .int x1), (2, .int x2), (3, .int x3), (4, .int x4), (5, .int x5), (6, .int x6), (7, .int x7)] [] w f ca sa := by
  refine mm_iconst (v := 0) h d_MD_nextOfSource_143 (by decide) ?_
  exact k0
theorem s_MD_nextOfSource_144 {E : mm_E} {Γ : mm_G} {lev kc ks ca sa : Nat} {w : mm_W} {f : mm_F} (h : mm_ok E Γ b_MD_nextOfSource 10 "PlannedTablesModel" lev kc ks) (hw : mm_sh w) {x1 : Int32} {x2 : Int32} {x3 : Int32} {x4 : Int32} {x5 : Int32} {x6 : Int32} {x7 : Int32} {xk0 : Int32} (k0 : x3 < 0 → mm_go E Γ 10 193 [(0, mm_rf E 136), (1, .int x1), (2, .int x2), (3, .int x3), (4, .int x4), (5, .int x5), (6, .int x6), (7, .int x7), (8, .int xk0)] [] w f ca sa) (b1 : ¬ x3 < 0 → vp_in ((4 * x3) + x2) 192) (k2 : ¬ x3 < 0 → x5 < (f 141 (((4 * x3) + x2)).toNatClampNeg) → mm_go E Γ 10 193 [(0, mm_rf E 136), (1, .int x1), (2, .int x2), (3, .int x3), (4, .int x4), (5, .int x5), (6, .int x6), (7, .int x7), (8, .int xk0)] [] w f ca sa) (k3 : ¬ x3 < 0 → ¬ x5 < (f 141 (((4 * x3) + x2)).toNatClampNeg) → ¬ x5 = (f 141 (((4 * x3) + x2)).toNatClampNeg) → mm_go E Γ 10 197 [(0, mm_rf E 136), (1, .int x1), (2, .int x2), (3, .int x3), (4, .int x4), (5, .int x5), (6, .int x6), (7, .int x7), (8, .int xk0)] [] w f ca sa) (b4 : ¬ x3 < 0 → ¬ x5 < (f 141 (((4 * x3) + x2)).toNatClampNeg) → x5 = (f 141 (((4 * x3) + x2)).toNatClampNeg) → vp_in (4 * x3) 192) (k5 : ¬ x3 < 0 → ¬ x5 < (f 141 (((4 * x3) + x2)).toNatClampNeg) → x5 = (f 141 (((4 * x3) + x2)).toNatClampNeg) → (f 141 ((4 * x3)).toNatClampNeg) ≤ x6 → mm_go E Γ 10 197 [(0, mm_rf E 136), (1, .int x1), (2, .int x2), (3, .int x3), (4, .int x4), (5, .int x5), (6, .int x6), (7, .int x7), (8, .int xk0)] [] w f ca sa) (k6 : ¬ x3 < 0 → ¬ x5 < (f 141 (((4 * x3) + x2)).toNatClampNeg) → x5 = (f 141 (((4 * x3) + x2)).toNatClampNeg) → ¬ (f 141 ((4 * x3)).toNatClampNeg) ≤ x6 → mm_go E Γ 10 193 [(0, mm_rf E 136), (1, .int x1), (2, .int x2), (3, .int x3), (4, .int x4), (5, .int x5), (6, .int x6), (7, .int x7), (8, .int xk0)] [] w f ca sa) : mm_go E Γ 10 144 [(0, mm_rf E 136), (1, .int x1), (2, .int x2), (3, .int x3), (4, .int x4), (5, .int x5), (6, .int x6), (7, .int x7)] [.int xk0] w f ca sa := by
  refine mm_istore (lv' := [(8, .int xk0), (0, mm_rf E 136), (1, .int x1), (2, .int x2), (3, .int x3), (4, .int x4), (5, .int x5), (6, .int x6), (7, .int x7)]) h d_MD_nextOfSource_144 (by decide) rfl ?_
  refine mm_iload_n h d_MD_nextOfSource_146 4 rfl rfl ?_
  refine mm_if_lt h d_MD_nextOfSource_147 (tgt := 193) (by decide) (fun c1 => ?_) (fun c1 => ?_)
  · skip
    refine mm_sub [1, 2, 3, 4, 5, 6, 7, 8, 0] rfl ?_
    exact (k0 c1)
  · skip
    refine mm_iload h d_MD_nextOfSource_150 6 rfl ?_
    refine mm_aload_n h d_MD_nextOfSource_152 1 rfl rfl ?_
    refine mm_getr h fl_MD_23 rfl (is_MO hw) (rf_MO_cells hw) (is_Mcells hw).1.1 d_MD_nextOfSource_153 ?_
    refine mm_iconst (v := 4) h d_MD_nextOfSource_156 (by decide) ?_
    refine mm_iload_n h d_MD_nextOfSource_157 4 rfl rfl ?_
    refine mm_imul h d_MD_nextOfSource_158 ?_
    refine mm_iload_n h d_MD_nextOfSource_159 3 rfl rfl ?_
    refine mm_iadd h d_MD_nextOfSource_160 ?_
    refine mm_iald h (is_Mcells hw) (b1 c1) d_MD_nextOfSource_161 ?_
    refine mm_icmp_lt h d_MD_nextOfSource_162 (tgt := 193) (by decide) (fun c2 => ?_) (fun c2 => ?_)
    · skip
      refine mm_sub [1, 2, 3, 4, 5, 6, 7, 8, 0] rfl ?_
      exact (k2 c1 c2)
    · skip
      refine mm_iload h d_MD_nextOfSource_165 6 rfl ?_
      refine mm_aload_n h d_MD_nextOfSource_167 1 rfl rfl ?_
      refine mm_getr h fl_MD_23 rfl (is_MO hw) (rf_MO_cells hw) (is_Mcells hw).1.1 d_MD_nextOfSource_168 ?_
      refine mm_iconst (v := 4) h d_MD_nextOfSource_171 (by decide) ?_
      refine mm_iload_n h d_MD_nextOfSource_172 4 rfl rfl ?_
      refine mm_imul h d_MD_nextOfSource_173 ?_
      refine mm_iload_n h d_MD_nextOfSource_174 3 rfl rfl ?_
      refine mm_iadd h d_MD_nextOfSource_175 ?_
      refine mm_iald h (is_Mcells hw) (b1 c1) d_MD_nextOfSource_176 ?_
      refine mm_icmp_ne h d_MD_nextOfSource_177 (tgt := 197) (by decide) (fun c3 => ?_) (fun c3 => ?_)
      · skip
        refine mm_sub [1, 2, 3, 4, 5, 6, 7, 8, 0] rfl ?_
        exact (k3 c1 c2 c3)
      · skip
        refine mm_iload h d_MD_nextOfSource_180 7 rfl ?_
        refine mm_aload_n h d_MD_nextOfSource_182 1 rfl rfl ?_
        refine mm_getr h fl_MD_23 rfl (is_MO hw) (rf_MO_cells hw) (is_Mcells hw).1.1 d_MD_nextOfSource_183 ?_
        refine mm_iconst (v := 4) h d_MD_nextOfSource_186 (by decide) ?_
        refine mm_iload_n h d_MD_nextOfSource_187 4 rfl rfl ?_
        refine mm_imul h d_MD_nextOfSource_188 ?_
        refine mm_iald h (is_Mcells hw) (b4 c1 c2 c3) d_MD_nextOfSource_189 ?_
        refine mm_icmp_ge h d_MD_nextOfSource_190 (tgt := 197) (by decide) (fun c4 => ?_) (fun c4 => ?_)
        · skip
          refine mm_sub [1, 2, 3, 4, 5, 6, 7, 8, 0] rfl ?_
          exact (k5 c1 c2 c3 c4)
        · skip
          refine mm_sub [1, 2, 3, 4, 5, 6, 7, 8, 0] rfl ?_
          exact (k6 c1 c2 c3 c4)
theorem s_MD_nextOfSource_193 {E : mm_E} {Γ : mm_G} {lev kc ks ca sa : Nat} {w : mm_W} {f : mm_F} (h : mm_ok E Γ b_MD_nextOfSource 10 "PlannedTablesModel" lev kc ks) (hw : mm_sh w) {x1 : Int32} {x2 : Int32} {x3 : Int32} {x4 : Int32} {x5 : Int32} {x6 : Int32} {x7 : Int32} {x8 : Int32} (k0 : mm_go E Γ 10 198 [(0, mm_rf E 136), (1, .int x1), (2, .int x2), (3, .int x3), (4, .int x4), (5, .int x5), (6, .int x6), (7, .int x7), (8, .int x8)] [.int 1] w f ca sa) : mm_go E Γ 10 193 [(0, mm_rf E 136), (1, .int x1), (2, .int x2), (3, .int x3), (4, .int x4), (5, .int x5), (6, .int x6), (7, .int x7), (8, .int x8)] [] w f ca sa := by
  refine mm_iconst (v := 1) h d_MD_nextOfSource_193 (by decide) ?_
  refine mm_goto h d_MD_nextOfSource_194 (tgt := 198) (by decide) ?_
  exact k0
theorem s_MD_nextOfSource_197 {E : mm_E} {Γ : mm_G} {lev kc ks ca sa : Nat} {w : mm_W} {f : mm_F} (h : mm_ok E Γ b_MD_nextOfSource 10 "PlannedTablesModel" lev kc ks) (hw : mm_sh w) {x1 : Int32} {x2 : Int32} {x3 : Int32} {x4 : Int32} {x5 : Int32} {x6 : Int32} {x7 : Int32} {x8 : Int32} (k0 : mm_go E Γ 10 198 [(0, mm_rf E 136), (1, .int x1), (2, .int x2), (3, .int x3), (4, .int x4), (5, .int x5), (6, .int x6), (7, .int x7), (8, .int x8)] [.int 0] w f ca sa) : mm_go E Γ 10 197 [(0, mm_rf E 136), (1, .int x1), (2, .int x2), (3, .int x3), (4, .int x4), (5, .int x5), (6, .int x6), (7, .int x7), (8, .int x8)] [] w f ca sa := by
  refine mm_iconst (v := 0) h d_MD_nextOfSource_197 (by decide) ?_
  exact k0
theorem s_MD_nextOfSource_198 {E : mm_E} {Γ : mm_G} {lev kc ks ca sa : Nat} {w : mm_W} {f : mm_F} (h : mm_ok E Γ b_MD_nextOfSource 10 "PlannedTablesModel" lev kc ks) (hw : mm_sh w) {x1 : Int32} {x2 : Int32} {x3 : Int32} {x4 : Int32} {x5 : Int32} {x6 : Int32} {x7 : Int32} {x8 : Int32} {xk0 : Int32} (b0 : vp_in x4 48) (k1 : ¬ (f 140 (x4).toNatClampNeg) = x1 → mm_go E Γ 10 231 [(0, mm_rf E 136), (1, .int x1), (2, .int x2), (3, .int x3), (4, .int x4), (5, .int x5), (6, .int x6), (7, .int x7), (8, .int x8), (9, .int xk0)] [] w f ca sa) (k2 : (f 140 (x4).toNatClampNeg) = x1 → x7 = 0 → mm_go E Γ 10 231 [(0, mm_rf E 136), (1, .int x1), (2, .int x2), (3, .int x3), (4, .int x4), (5, .int x5), (6, .int x6), (7, .int x7), (8, .int x8), (9, .int xk0)] [] w f ca sa) (k3 : (f 140 (x4).toNatClampNeg) = x1 → ¬ x7 = 0 → x8 = 0 → mm_go E Γ 10 231 [(0, mm_rf E 136), (1, .int x1), (2, .int x2), (3, .int x3), (4, .int x4), (5, .int x5), (6, .int x6), (7, .int x7), (8, .int x8), (9, .int xk0)] [] w f ca sa) (k4 : (f 140 (x4).toNatClampNeg) = x1 → ¬ x7 = 0 → ¬ x8 = 0 → xk0 = 0 → mm_go E Γ 10 231 [(0, mm_rf E 136), (1, .int x1), (2, .int x2), (3, .int x3), (4, .int x4), (5, .int x5), (6, .int x6), (7, .int x7), (8, .int x8), (9, .int xk0)] [] w f ca sa) (k5 : (f 140 (x4).toNatClampNeg) = x1 → ¬ x7 = 0 → ¬ x8 = 0 → ¬ xk0 = 0 → mm_go E Γ 10 232 [(0, mm_rf E 136), (1, .int x1), (2, .int x2), (3, .int x3), (4, .int x4), (5, .int x5), (6, .int x6), (7, .int x7), (8, .int x8), (9, .int xk0)] [.int x4] w f ca sa) : mm_go E Γ 10 198 [(0, mm_rf E 136), (1, .int x1), (2, .int x2), (3, .int x3), (4, .int x4), (5, .int x5), (6, .int x6), (7, .int x7), (8, .int x8)] [.int xk0] w f ca sa := by
  refine mm_istore (lv' := [(9, .int xk0), (0, mm_rf E 136), (1, .int x1), (2, .int x2), (3, .int x3), (4, .int x4), (5, .int x5), (6, .int x6), (7, .int x7), (8, .int x8)]) h d_MD_nextOfSource_198 (by decide) rfl ?_
  refine mm_aload_n h d_MD_nextOfSource_200 1 rfl rfl ?_
  refine mm_getr h fl_MD_20 rfl (is_MO hw) (rf_MO_of hw) (is_Mof hw).1.1 d_MD_nextOfSource_201 ?_
  refine mm_iload h d_MD_nextOfSource_204 5 rfl ?_
  refine mm_iald h (is_Mof hw) b0 d_MD_nextOfSource_206 ?_
  refine mm_iload_n h d_MD_nextOfSource_207 2 rfl rfl ?_
  refine mm_icmp_ne h d_MD_nextOfSource_208 (tgt := 231) (by decide) (fun c1 => ?_) (fun c1 => ?_)
  · skip
    refine mm_sub [1, 2, 3, 4, 5, 6, 7, 8, 9, 0] rfl ?_
    exact (k1 c1)
  · skip
    refine mm_iload h d_MD_nextOfSource_211 8 rfl ?_
    refine mm_if_eq h d_MD_nextOfSource_213 (tgt := 231) (by decide) (fun c2 => ?_) (fun c2 => ?_)
    · skip
      refine mm_sub [1, 2, 3, 4, 5, 6, 7, 8, 9, 0] rfl ?_
      exact (k2 c1 c2)
    · skip
      refine mm_iload h d_MD_nextOfSource_216 9 rfl ?_
      refine mm_if_eq h d_MD_nextOfSource_218 (tgt := 231) (by decide) (fun c3 => ?_) (fun c3 => ?_)
      · skip
        refine mm_sub [1, 2, 3, 4, 5, 6, 7, 8, 9, 0] rfl ?_
        exact (k3 c1 c2 c3)
      · skip
        refine mm_iload h d_MD_nextOfSource_221 0 rfl ?_
        refine mm_if_eq h d_MD_nextOfSource_223 (tgt := 231) (by decide) (fun c4 => ?_) (fun c4 => ?_)
        · skip
          refine mm_sub [1, 2, 3, 4, 5, 6, 7, 8, 9, 0] rfl ?_
          exact (k4 c1 c2 c3 c4)
        · skip
          refine mm_iload h d_MD_nextOfSource_226 5 rfl ?_
          refine mm_goto h d_MD_nextOfSource_228 (tgt := 232) (by decide) ?_
          refine mm_sub [1, 2, 3, 4, 5, 6, 7, 8, 9, 0] rfl ?_
          exact (k5 c1 c2 c3 c4)
theorem s_MD_nextOfSource_231 {E : mm_E} {Γ : mm_G} {lev kc ks ca sa : Nat} {w : mm_W} {f : mm_F} (h : mm_ok E Γ b_MD_nextOfSource 10 "PlannedTablesModel" lev kc ks) (hw : mm_sh w) {x1 : Int32} {x2 : Int32} {x3 : Int32} {x4 : Int32} {x5 : Int32} {x6 : Int32} {x7 : Int32} {x8 : Int32} {x9 : Int32} (k0 : mm_go E Γ 10 232 [(0, mm_rf E 136), (1, .int x1), (2, .int x2), (3, .int x3), (4, .int x4), (5, .int x5), (6, .int x6), (7, .int x7), (8, .int x8), (9, .int x9)] [.int x3] w f ca sa) : mm_go E Γ 10 231 [(0, mm_rf E 136), (1, .int x1), (2, .int x2), (3, .int x3), (4, .int x4), (5, .int x5), (6, .int x6), (7, .int x7), (8, .int x8), (9, .int x9)] [] w f ca sa := by
  refine mm_iload_n h d_MD_nextOfSource_231 3 rfl rfl ?_
  exact k0
theorem s_MD_nextOfSource_232 {E : mm_E} {Γ : mm_G} {lev kc ks ca sa : Nat} {w : mm_W} {f : mm_F} (h : mm_ok E Γ b_MD_nextOfSource 10 "PlannedTablesModel" lev kc ks) (hw : mm_sh w) {x1 : Int32} {x2 : Int32} {x3 : Int32} {x4 : Int32} {x5 : Int32} {x6 : Int32} {x7 : Int32} {x8 : Int32} {x9 : Int32} {xk0 : Int32} (k0 : mm_go E Γ 10 33 [(0, mm_rf E 136), (1, .int x1), (2, .int x2), (3, .int xk0), (4, .int (x4 + 1))] [] w f ca sa) : mm_go E Γ 10 232 [(0, mm_rf E 136), (1, .int x1), (2, .int x2), (3, .int x3), (4, .int x4), (5, .int x5), (6, .int x6), (7, .int x7), (8, .int x8), (9, .int x9)] [.int xk0] w f ca sa := by
  refine mm_istore_n (lv' := [(3, .int xk0), (0, mm_rf E 136), (1, .int x1), (2, .int x2), (4, .int x4), (5, .int x5), (6, .int x6), (7, .int x7), (8, .int x8), (9, .int x9)]) h d_MD_nextOfSource_232 rfl (by decide) rfl ?_
  refine mm_iinc (lv' := [(4, .int (x4 + 1)), (3, .int xk0), (0, mm_rf E 136), (1, .int x1), (2, .int x2), (5, .int x5), (6, .int x6), (7, .int x7), (8, .int x8), (9, .int x9)]) h d_MD_nextOfSource_233 4 rfl (congrArg (fun z => x4 + z) lit1) (by decide) rfl ?_
  refine mm_goto h d_MD_nextOfSource_236 (tgt := 33) (by decide) ?_
  refine mm_sub [2, 3, 4, 1, 0] rfl ?_
  exact k0
theorem s_MD_nextOfSource_274 {E : mm_E} {Γ : mm_G} {lev kc ks ca sa : Nat} {w : mm_W} {f : mm_F} {Post : Option Value → mm_W → mm_F → Prop} (h : mm_ok E Γ b_MD_nextOfSource 10 "PlannedTablesModel" lev kc ks) (he : mm_end E Γ (some .int) kc ks Post y_MD_nextOfSource.name) (hca : ca ≤ kc) (hsa : sa ≤ ks) (hw : mm_sh w) {x1 : Int32} {x2 : Int32} {x3 : Int32} {x4 : Int32} (k0 : Post (some (.int x3)) w f) : mm_go E Γ 10 274 [(0, mm_rf E 136), (1, .int x1), (2, .int x2), (3, .int x3), (4, .int x4)] [] w f ca sa := by
  refine mm_iload_n h d_MD_nextOfSource_274 3 rfl rfl ?_
  exact mm_iret h he rfl d_MD_nextOfSource_275 hca hsa k0
theorem d_MD_nextOfStep_0 : decode b_MD_nextOfStep 0 = .ok (.aload_n 0, 1) := by decide +kernel
theorem d_MD_nextOfStep_1 : decode b_MD_nextOfStep 1 = .ok (.getfield 26, 3) := by decide +kernel
theorem d_MD_nextOfStep_4 : decode b_MD_nextOfStep 4 = .ok (.aload_n 0, 1) := by decide +kernel
theorem d_MD_nextOfStep_5 : decode b_MD_nextOfStep 5 = .ok (.getfield 32, 3) := by decide +kernel
theorem d_MD_nextOfStep_8 : decode b_MD_nextOfStep 8 = .ok (.iload_n 1, 1) := by decide +kernel
theorem d_MD_nextOfStep_9 : decode b_MD_nextOfStep 9 = .ok (.iaload, 1) := by decide +kernel
theorem d_MD_nextOfStep_10 : decode b_MD_nextOfStep 10 = .ok (.iaload, 1) := by decide +kernel
theorem d_MD_nextOfStep_11 : decode b_MD_nextOfStep 11 = .ok (.istore_n 2, 1) := by decide +kernel
theorem d_MD_nextOfStep_12 : decode b_MD_nextOfStep 12 = .ok (.aload_n 0, 1) := by decide +kernel
theorem d_MD_nextOfStep_13 : decode b_MD_nextOfStep 13 = .ok (.getfield 26, 3) := by decide +kernel
theorem d_MD_nextOfStep_16 : decode b_MD_nextOfStep 16 = .ok (.aload_n 0, 1) := by decide +kernel
theorem d_MD_nextOfStep_17 : decode b_MD_nextOfStep 17 = .ok (.getfield 32, 3) := by decide +kernel
theorem d_MD_nextOfStep_20 : decode b_MD_nextOfStep 20 = .ok (.iload_n 1, 1) := by decide +kernel
theorem d_MD_nextOfStep_21 : decode b_MD_nextOfStep 21 = .ok (.iaload, 1) := by decide +kernel
theorem d_MD_nextOfStep_22 : decode b_MD_nextOfStep 22 = .ok (.iconst (1), 1) := by decide +kernel
theorem d_MD_nextOfStep_23 : decode b_MD_nextOfStep 23 = .ok (.iadd, 1) := by decide +kernel
theorem d_MD_nextOfStep_24 : decode b_MD_nextOfStep 24 = .ok (.iaload, 1) := by decide +kernel
theorem d_MD_nextOfStep_25 : decode b_MD_nextOfStep 25 = .ok (.istore_n 3, 1) := by decide +kernel
theorem d_MD_nextOfStep_26 : decode b_MD_nextOfStep 26 = .ok (.aload_n 0, 1) := by decide +kernel
theorem d_MD_nextOfStep_27 : decode b_MD_nextOfStep 27 = .ok (.getfield 50, 3) := by decide +kernel
theorem d_MD_nextOfStep_30 : decode b_MD_nextOfStep 30 = .ok (.bipush (8), 2) := by decide +kernel
theorem d_MD_nextOfStep_32 : decode b_MD_nextOfStep 32 = .ok (.iload_n 1, 1) := by decide +kernel
theorem d_MD_nextOfStep_33 : decode b_MD_nextOfStep 33 = .ok (.imul, 1) := by decide +kernel
theorem d_MD_nextOfStep_34 : decode b_MD_nextOfStep 34 = .ok (.aload_n 0, 1) := by decide +kernel
theorem d_MD_nextOfStep_35 : decode b_MD_nextOfStep 35 = .ok (.getfield 26, 3) := by decide +kernel
theorem d_MD_nextOfStep_38 : decode b_MD_nextOfStep 38 = .ok (.aload_n 0, 1) := by decide +kernel
theorem d_MD_nextOfStep_39 : decode b_MD_nextOfStep 39 = .ok (.getfield 32, 3) := by decide +kernel
theorem d_MD_nextOfStep_42 : decode b_MD_nextOfStep 42 = .ok (.iload_n 1, 1) := by decide +kernel
theorem d_MD_nextOfStep_43 : decode b_MD_nextOfStep 43 = .ok (.iaload, 1) := by decide +kernel
theorem d_MD_nextOfStep_44 : decode b_MD_nextOfStep 44 = .ok (.iconst (2), 1) := by decide +kernel
theorem d_MD_nextOfStep_45 : decode b_MD_nextOfStep 45 = .ok (.iadd, 1) := by decide +kernel
theorem d_MD_nextOfStep_46 : decode b_MD_nextOfStep 46 = .ok (.iaload, 1) := by decide +kernel
theorem d_MD_nextOfStep_47 : decode b_MD_nextOfStep 47 = .ok (.iadd, 1) := by decide +kernel
theorem d_MD_nextOfStep_48 : decode b_MD_nextOfStep 48 = .ok (.iaload, 1) := by decide +kernel
theorem d_MD_nextOfStep_49 : decode b_MD_nextOfStep 49 = .ok (.istore 4, 2) := by decide +kernel
theorem d_MD_nextOfStep_51 : decode b_MD_nextOfStep 51 = .ok (.iconst (-1), 1) := by decide +kernel
theorem d_MD_nextOfStep_52 : decode b_MD_nextOfStep 52 = .ok (.istore 5, 2) := by decide +kernel
theorem d_MD_nextOfStep_54 : decode b_MD_nextOfStep 54 = .ok (.iconst (0), 1) := by decide +kernel
theorem d_MD_nextOfStep_55 : decode b_MD_nextOfStep 55 = .ok (.istore 6, 2) := by decide +kernel
theorem d_MD_nextOfStep_57 : decode b_MD_nextOfStep 57 = .ok (.iload 6, 2) := by decide +kernel
theorem d_MD_nextOfStep_59 : decode b_MD_nextOfStep 59 = .ok (.aload_n 0, 1) := by decide +kernel
theorem d_MD_nextOfStep_60 : decode b_MD_nextOfStep 60 = .ok (.getfield 71, 3) := by decide +kernel
theorem d_MD_nextOfStep_63 : decode b_MD_nextOfStep 63 = .ok (.if_icmp .ge (107), 3) := by decide +kernel
theorem d_MD_nextOfStep_66 : decode b_MD_nextOfStep 66 = .ok (.aload_n 0, 1) := by decide +kernel
theorem d_MD_nextOfStep_67 : decode b_MD_nextOfStep 67 = .ok (.getfield 23, 3) := by decide +kernel
theorem d_MD_nextOfStep_70 : decode b_MD_nextOfStep 70 = .ok (.iconst (4), 1) := by decide +kernel
theorem d_MD_nextOfStep_71 : decode b_MD_nextOfStep 71 = .ok (.iload 6, 2) := by decide +kernel
theorem d_MD_nextOfStep_73 : decode b_MD_nextOfStep 73 = .ok (.imul, 1) := by decide +kernel
theorem d_MD_nextOfStep_74 : decode b_MD_nextOfStep 74 = .ok (.iaload, 1) := by decide +kernel
theorem d_MD_nextOfStep_75 : decode b_MD_nextOfStep 75 = .ok (.istore 7, 2) := by decide +kernel
theorem d_MD_nextOfStep_77 : decode b_MD_nextOfStep 77 = .ok (.aload_n 0, 1) := by decide +kernel
theorem d_MD_nextOfStep_78 : decode b_MD_nextOfStep 78 = .ok (.getfield 20, 3) := by decide +kernel
theorem d_MD_nextOfStep_81 : decode b_MD_nextOfStep 81 = .ok (.iload 6, 2) := by decide +kernel
theorem d_MD_nextOfStep_83 : decode b_MD_nextOfStep 83 = .ok (.iaload, 1) := by decide +kernel
theorem d_MD_nextOfStep_84 : decode b_MD_nextOfStep 84 = .ok (.iload_n 2, 1) := by decide +kernel
theorem d_MD_nextOfStep_85 : decode b_MD_nextOfStep 85 = .ok (.if_icmp .ne (43), 3) := by decide +kernel
theorem d_MD_nextOfStep_88 : decode b_MD_nextOfStep 88 = .ok (.aload_n 0, 1) := by decide +kernel
theorem d_MD_nextOfStep_89 : decode b_MD_nextOfStep 89 = .ok (.getfield 23, 3) := by decide +kernel
theorem d_MD_nextOfStep_92 : decode b_MD_nextOfStep 92 = .ok (.iconst (4), 1) := by decide +kernel
theorem d_MD_nextOfStep_93 : decode b_MD_nextOfStep 93 = .ok (.iload 6, 2) := by decide +kernel
theorem d_MD_nextOfStep_95 : decode b_MD_nextOfStep 95 = .ok (.imul, 1) := by decide +kernel
theorem d_MD_nextOfStep_96 : decode b_MD_nextOfStep 96 = .ok (.iload_n 3, 1) := by decide +kernel
theorem d_MD_nextOfStep_97 : decode b_MD_nextOfStep 97 = .ok (.iadd, 1) := by decide +kernel
theorem d_MD_nextOfStep_98 : decode b_MD_nextOfStep 98 = .ok (.iaload, 1) := by decide +kernel
theorem d_MD_nextOfStep_99 : decode b_MD_nextOfStep 99 = .ok (.iload 4, 2) := by decide +kernel
theorem d_MD_nextOfStep_101 : decode b_MD_nextOfStep 101 = .ok (.if_icmp .ne (27), 3) := by decide +kernel
theorem d_MD_nextOfStep_104 : decode b_MD_nextOfStep 104 = .ok (.aload_n 0, 1) := by decide +kernel
theorem d_MD_nextOfStep_105 : decode b_MD_nextOfStep 105 = .ok (.getfield 41, 3) := by decide +kernel
theorem d_MD_nextOfStep_108 : decode b_MD_nextOfStep 108 = .ok (.iload_n 1, 1) := by decide +kernel
theorem d_MD_nextOfStep_109 : decode b_MD_nextOfStep 109 = .ok (.iaload, 1) := by decide +kernel
theorem d_MD_nextOfStep_110 : decode b_MD_nextOfStep 110 = .ok (.ifCond .eq (14), 3) := by decide +kernel
theorem d_MD_nextOfStep_113 : decode b_MD_nextOfStep 113 = .ok (.iload 7, 2) := by decide +kernel
theorem d_MD_nextOfStep_115 : decode b_MD_nextOfStep 115 = .ok (.aload_n 0, 1) := by decide +kernel
theorem d_MD_nextOfStep_116 : decode b_MD_nextOfStep 116 = .ok (.getfield 44, 3) := by decide +kernel
theorem d_MD_nextOfStep_119 : decode b_MD_nextOfStep 119 = .ok (.iload_n 1, 1) := by decide +kernel
theorem d_MD_nextOfStep_120 : decode b_MD_nextOfStep 120 = .ok (.iaload, 1) := by decide +kernel
theorem d_MD_nextOfStep_121 : decode b_MD_nextOfStep 121 = .ok (.if_icmp .le (7), 3) := by decide +kernel
theorem d_MD_nextOfStep_124 : decode b_MD_nextOfStep 124 = .ok (.iconst (1), 1) := by decide +kernel
theorem d_MD_nextOfStep_125 : decode b_MD_nextOfStep 125 = .ok (.goto (4), 3) := by decide +kernel
theorem d_MD_nextOfStep_128 : decode b_MD_nextOfStep 128 = .ok (.iconst (0), 1) := by decide +kernel
theorem d_MD_nextOfStep_129 : decode b_MD_nextOfStep 129 = .ok (.istore 8, 2) := by decide +kernel
theorem d_MD_nextOfStep_131 : decode b_MD_nextOfStep 131 = .ok (.iload 8, 2) := by decide +kernel
theorem d_MD_nextOfStep_133 : decode b_MD_nextOfStep 133 = .ok (.ifCond .eq (27), 3) := by decide +kernel
theorem d_MD_nextOfStep_136 : decode b_MD_nextOfStep 136 = .ok (.iload 5, 2) := by decide +kernel
theorem d_MD_nextOfStep_138 : decode b_MD_nextOfStep 138 = .ok (.ifCond .lt (17), 3) := by decide +kernel
theorem d_MD_nextOfStep_141 : decode b_MD_nextOfStep 141 = .ok (.iload 7, 2) := by decide +kernel
theorem d_MD_nextOfStep_143 : decode b_MD_nextOfStep 143 = .ok (.aload_n 0, 1) := by decide +kernel
theorem d_MD_nextOfStep_144 : decode b_MD_nextOfStep 144 = .ok (.getfield 23, 3) := by decide +kernel
theorem d_MD_nextOfStep_147 : decode b_MD_nextOfStep 147 = .ok (.iconst (4), 1) := by decide +kernel
theorem d_MD_nextOfStep_148 : decode b_MD_nextOfStep 148 = .ok (.iload 5, 2) := by decide +kernel
theorem d_MD_nextOfStep_150 : decode b_MD_nextOfStep 150 = .ok (.imul, 1) := by decide +kernel
theorem d_MD_nextOfStep_151 : decode b_MD_nextOfStep 151 = .ok (.iaload, 1) := by decide +kernel
theorem d_MD_nextOfStep_152 : decode b_MD_nextOfStep 152 = .ok (.if_icmp .ge (8), 3) := by decide +kernel
theorem d_MD_nextOfStep_155 : decode b_MD_nextOfStep 155 = .ok (.iload 6, 2) := by decide +kernel
theorem d_MD_nextOfStep_157 : decode b_MD_nextOfStep 157 = .ok (.goto (5), 3) := by decide +kernel
theorem d_MD_nextOfStep_160 : decode b_MD_nextOfStep 160 = .ok (.iload 5, 2) := by decide +kernel
theorem d_MD_nextOfStep_162 : decode b_MD_nextOfStep 162 = .ok (.istore 5, 2) := by decide +kernel
theorem d_MD_nextOfStep_164 : decode b_MD_nextOfStep 164 = .ok (.iinc 6 (1), 3) := by decide +kernel
theorem d_MD_nextOfStep_167 : decode b_MD_nextOfStep 167 = .ok (.goto (-110), 3) := by decide +kernel
theorem d_MD_nextOfStep_170 : decode b_MD_nextOfStep 170 = .ok (.iload 5, 2) := by decide +kernel
theorem d_MD_nextOfStep_172 : decode b_MD_nextOfStep 172 = .ok (.ifCond .lt (25), 3) := by decide +kernel
theorem d_MD_nextOfStep_175 : decode b_MD_nextOfStep 175 = .ok (.aload_n 0, 1) := by decide +kernel
theorem d_MD_nextOfStep_176 : decode b_MD_nextOfStep 176 = .ok (.getfield 44, 3) := by decide +kernel
theorem d_MD_nextOfStep_179 : decode b_MD_nextOfStep 179 = .ok (.iload_n 1, 1) := by decide +kernel
theorem d_MD_nextOfStep_180 : decode b_MD_nextOfStep 180 = .ok (.aload_n 0, 1) := by decide +kernel
theorem d_MD_nextOfStep_181 : decode b_MD_nextOfStep 181 = .ok (.getfield 23, 3) := by decide +kernel
theorem d_MD_nextOfStep_184 : decode b_MD_nextOfStep 184 = .ok (.iconst (4), 1) := by decide +kernel
theorem d_MD_nextOfStep_185 : decode b_MD_nextOfStep 185 = .ok (.iload 5, 2) := by decide +kernel
theorem d_MD_nextOfStep_187 : decode b_MD_nextOfStep 187 = .ok (.imul, 1) := by decide +kernel
theorem d_MD_nextOfStep_188 : decode b_MD_nextOfStep 188 = .ok (.iaload, 1) := by decide +kernel
theorem d_MD_nextOfStep_189 : decode b_MD_nextOfStep 189 = .ok (.iastore, 1) := by decide +kernel
theorem d_MD_nextOfStep_190 : decode b_MD_nextOfStep 190 = .ok (.aload_n 0, 1) := by decide +kernel
theorem d_MD_nextOfStep_191 : decode b_MD_nextOfStep 191 = .ok (.getfield 41, 3) := by decide +kernel
theorem d_MD_nextOfStep_194 : decode b_MD_nextOfStep 194 = .ok (.iload_n 1, 1) := by decide +kernel
theorem d_MD_nextOfStep_195 : decode b_MD_nextOfStep 195 = .ok (.iconst (1), 1) := by decide +kernel
theorem d_MD_nextOfStep_196 : decode b_MD_nextOfStep 196 = .ok (.iastore, 1) := by decide +kernel
theorem d_MD_nextOfStep_197 : decode b_MD_nextOfStep 197 = .ok (.iload 5, 2) := by decide +kernel
theorem d_MD_nextOfStep_199 : decode b_MD_nextOfStep 199 = .ok (.ireturn, 1) := by decide +kernel
theorem s_MD_nextOfStep_0 {E : mm_E} {Γ : mm_G} {lev kc ks ca sa : Nat} {w : mm_W} {f : mm_F} (h : mm_ok E Γ b_MD_nextOfStep 9 "PlannedTablesModel" lev kc ks) (hw : mm_sh w) {x1 : Int32} (b0 : vp_in x1 40) (b1 : vp_in (f 144 (x1).toNatClampNeg) 40) (b2 : vp_in ((f 144 (x1).toNatClampNeg) + 1) 40) (b3 : vp_in ((f 144 (x1).toNatClampNeg) + 2) 40) (b4 : vp_in ((8 * x1) + (f 142 (((f 144 (x1).toNatClampNeg) + 2)).toNatClampNeg)) 320) (k5 : mm_go E Γ 9 57 [(0, mm_rf E 136), (1, .int x1), (2, .int (f 142 ((f 144 (x1).toNatClampNeg)).toNatClampNeg)), (3, .int (f 142 (((f 144 (x1).toNatClampNeg) + 1)).toNatClampNeg)), (4, .int (f 150 (((8 * x1) + (f 142 (((f 144 (x1).toNatClampNeg) + 2)).toNatClampNeg))).toNatClampNeg)), (5, .int (-1)), (6, .int 0)] [] w f ca sa) : mm_go E Γ 9 0 [(0, mm_rf E 136), (1, .int x1)] [] w f ca sa := by
  refine mm_aload_n h d_MD_nextOfStep_0 0 rfl rfl ?_
  refine mm_getr h fl_MD_26 rfl (is_MO hw) (rf_MO_plan hw) (is_Mplan hw).1.1 d_MD_nextOfStep_1 ?_
  refine mm_aload_n h d_MD_nextOfStep_4 0 rfl rfl ?_
  refine mm_getr h fl_MD_32 rfl (is_MO hw) (rf_MO_at hw) (is_Mat hw).1.1 d_MD_nextOfStep_5 ?_
  refine mm_iload_n h d_MD_nextOfStep_8 1 rfl rfl ?_
  refine mm_iald h (is_Mat hw) b0 d_MD_nextOfStep_9 ?_
  refine mm_iald h (is_Mplan hw) b1 d_MD_nextOfStep_10 ?_
  refine mm_istore_n (lv' := [(2, .int (f 142 ((f 144 (x1).toNatClampNeg)).toNatClampNeg)), (0, mm_rf E 136), (1, .int x1)]) h d_MD_nextOfStep_11 rfl (by decide) rfl ?_
  refine mm_aload_n h d_MD_nextOfStep_12 1 rfl rfl ?_
  refine mm_getr h fl_MD_26 rfl (is_MO hw) (rf_MO_plan hw) (is_Mplan hw).1.1 d_MD_nextOfStep_13 ?_
  refine mm_aload_n h d_MD_nextOfStep_16 1 rfl rfl ?_
  refine mm_getr h fl_MD_32 rfl (is_MO hw) (rf_MO_at hw) (is_Mat hw).1.1 d_MD_nextOfStep_17 ?_
  refine mm_iload_n h d_MD_nextOfStep_20 2 rfl rfl ?_
  refine mm_iald h (is_Mat hw) b0 d_MD_nextOfStep_21 ?_
  refine mm_iconst (v := 1) h d_MD_nextOfStep_22 (by decide) ?_
  refine mm_iadd h d_MD_nextOfStep_23 ?_
  refine mm_iald h (is_Mplan hw) b2 d_MD_nextOfStep_24 ?_
  refine mm_istore_n (lv' := [(3, .int (f 142 (((f 144 (x1).toNatClampNeg) + 1)).toNatClampNeg)), (2, .int (f 142 ((f 144 (x1).toNatClampNeg)).toNatClampNeg)), (0, mm_rf E 136), (1, .int x1)]) h d_MD_nextOfStep_25 rfl (by decide) rfl ?_
  refine mm_aload_n h d_MD_nextOfStep_26 2 rfl rfl ?_
  refine mm_getr h fl_MD_50 rfl (is_MO hw) (rf_MO_lefts hw) (is_Mlefts hw).1.1 d_MD_nextOfStep_27 ?_
  refine mm_bipush (v := 8) h d_MD_nextOfStep_30 (by decide) ?_
  refine mm_iload_n h d_MD_nextOfStep_32 3 rfl rfl ?_
  refine mm_imul h d_MD_nextOfStep_33 ?_
  refine mm_aload_n h d_MD_nextOfStep_34 2 rfl rfl ?_
  refine mm_getr h fl_MD_26 rfl (is_MO hw) (rf_MO_plan hw) (is_Mplan hw).1.1 d_MD_nextOfStep_35 ?_
  refine mm_aload_n h d_MD_nextOfStep_38 2 rfl rfl ?_
  refine mm_getr h fl_MD_32 rfl (is_MO hw) (rf_MO_at hw) (is_Mat hw).1.1 d_MD_nextOfStep_39 ?_
  refine mm_iload_n h d_MD_nextOfStep_42 3 rfl rfl ?_
  refine mm_iald h (is_Mat hw) b0 d_MD_nextOfStep_43 ?_
  refine mm_iconst (v := 2) h d_MD_nextOfStep_44 (by decide) ?_
  refine mm_iadd h d_MD_nextOfStep_45 ?_
  refine mm_iald h (is_Mplan hw) b3 d_MD_nextOfStep_46 ?_
  refine mm_iadd h d_MD_nextOfStep_47 ?_
  refine mm_iald h (is_Mlefts hw) b4 d_MD_nextOfStep_48 ?_
  refine mm_istore (lv' := [(4, .int (f 150 (((8 * x1) + (f 142 (((f 144 (x1).toNatClampNeg) + 2)).toNatClampNeg))).toNatClampNeg)), (3, .int (f 142 (((f 144 (x1).toNatClampNeg) + 1)).toNatClampNeg)), (2, .int (f 142 ((f 144 (x1).toNatClampNeg)).toNatClampNeg)), (0, mm_rf E 136), (1, .int x1)]) h d_MD_nextOfStep_49 (by decide) rfl ?_
  refine mm_iconst (v := (-1)) h d_MD_nextOfStep_51 (by decide) ?_
  refine mm_istore (lv' := [(5, .int (-1)), (4, .int (f 150 (((8 * x1) + (f 142 (((f 144 (x1).toNatClampNeg) + 2)).toNatClampNeg))).toNatClampNeg)), (3, .int (f 142 (((f 144 (x1).toNatClampNeg) + 1)).toNatClampNeg)), (2, .int (f 142 ((f 144 (x1).toNatClampNeg)).toNatClampNeg)), (0, mm_rf E 136), (1, .int x1)]) h d_MD_nextOfStep_52 (by decide) rfl ?_
  refine mm_iconst (v := 0) h d_MD_nextOfStep_54 (by decide) ?_
  refine mm_istore (lv' := [(6, .int 0), (5, .int (-1)), (4, .int (f 150 (((8 * x1) + (f 142 (((f 144 (x1).toNatClampNeg) + 2)).toNatClampNeg))).toNatClampNeg)), (3, .int (f 142 (((f 144 (x1).toNatClampNeg) + 1)).toNatClampNeg)), (2, .int (f 142 ((f 144 (x1).toNatClampNeg)).toNatClampNeg)), (0, mm_rf E 136), (1, .int x1)]) h d_MD_nextOfStep_55 (by decide) rfl ?_
  refine mm_sub [5, 6, 4, 3, 2, 1, 0] rfl ?_
  exact k5
theorem s_MD_nextOfStep_57 {E : mm_E} {Γ : mm_G} {lev kc ks ca sa : Nat} {w : mm_W} {f : mm_F} (h : mm_ok E Γ b_MD_nextOfStep 9 "PlannedTablesModel" lev kc ks) (hw : mm_sh w) {x1 : Int32} {x2 : Int32} {x3 : Int32} {x4 : Int32} {x5 : Int32} {x6 : Int32} (k0 : (f 136 5) ≤ x6 → x5 < 0 → mm_go E Γ 9 197 [(0, mm_rf E 136), (1, .int x1), (2, .int x2), (3, .int x3), (4, .int x4), (5, .int x5), (6, .int x6)] [] w f ca sa) (b1 : (f 136 5) ≤ x6 → ¬ x5 < 0 → vp_in (4 * x5) 192) (b2 : (f 136 5) ≤ x6 → ¬ x5 < 0 → vp_in x1 40) (k3 : (f 136 5) ≤ x6 → ¬ x5 < 0 → mm_go E Γ 9 197 [(0, mm_rf E 136), (1, .int x1), (2, .int x2), (3, .int x3), (4, .int x4), (5, .int x5), (6, .int x6)] [] w (mm_up (mm_up f 148 (x1).toNatClampNeg (f 141 ((4 * x5)).toNatClampNeg)) 147 (x1).toNatClampNeg 1) ca sa) (b4 : ¬ (f 136 5) ≤ x6 → vp_in (4 * x6) 192) (b5 : ¬ (f 136 5) ≤ x6 → vp_in x6 48) (k6 : ¬ (f 136 5) ≤ x6 → ¬ (f 140 (x6).toNatClampNeg) = x2 → mm_go E Γ 9 128 [(0, mm_rf E 136), (1, .int x1), (2, .int x2), (3, .int x3), (4, .int x4), (5, .int x5), (6, .int x6), (7, .int (f 141 ((4 * x6)).toNatClampNeg))] [] w f ca sa) (b7 : ¬ (f 136 5) ≤ x6 → (f 140 (x6).toNatClampNeg) = x2 → vp_in ((4 * x6) + x3) 192) (k8 : ¬ (f 136 5) ≤ x6 → (f 140 (x6).toNatClampNeg) = x2 → ¬ (f 141 (((4 * x6) + x3)).toNatClampNeg) = x4 → mm_go E Γ 9 128 [(0, mm_rf E 136), (1, .int x1), (2, .int x2), (3, .int x3), (4, .int x4), (5, .int x5), (6, .int x6), (7, .int (f 141 ((4 * x6)).toNatClampNeg))] [] w f ca sa) (b9 : ¬ (f 136 5) ≤ x6 → (f 140 (x6).toNatClampNeg) = x2 → (f 141 (((4 * x6) + x3)).toNatClampNeg) = x4 → vp_in x1 40) (k10 : ¬ (f 136 5) ≤ x6 → (f 140 (x6).toNatClampNeg) = x2 → (f 141 (((4 * x6) + x3)).toNatClampNeg) = x4 → (f 147 (x1).toNatClampNeg) = 0 → mm_go E Γ 9 124 [(0, mm_rf E 136), (1, .int x1), (2, .int x2), (3, .int x3), (4, .int x4), (5, .int x5), (6, .int x6), (7, .int (f 141 ((4 * x6)).toNatClampNeg))] [] w f ca sa) (k11 : ¬ (f 136 5) ≤ x6 → (f 140 (x6).toNatClampNeg) = x2 → (f 141 (((4 * x6) + x3)).toNatClampNeg) = x4 → ¬ (f 147 (x1).toNatClampNeg) = 0 → (f 141 ((4 * x6)).toNatClampNeg) ≤ (f 148 (x1).toNatClampNeg) → mm_go E Γ 9 128 [(0, mm_rf E 136), (1, .int x1), (2, .int x2), (3, .int x3), (4, .int x4), (5, .int x5), (6, .int x6), (7, .int (f 141 ((4 * x6)).toNatClampNeg))] [] w f ca sa) (k12 : ¬ (f 136 5) ≤ x6 → (f 140 (x6).toNatClampNeg) = x2 → (f 141 (((4 * x6) + x3)).toNatClampNeg) = x4 → ¬ (f 147 (x1).toNatClampNeg) = 0 → ¬ (f 141 ((4 * x6)).toNatClampNeg) ≤ (f 148 (x1).toNatClampNeg) → mm_go E Γ 9 124 [(0, mm_rf E 136), (1, .int x1), (2, .int x2), (3, .int x3), (4, .int x4), (5, .int x5), (6, .int x6), (7, .int (f 141 ((4 * x6)).toNatClampNeg))] [] w f ca sa) : mm_go E Γ 9 57 [(0, mm_rf E 136), (1, .int x1), (2, .int x2), (3, .int x3), (4, .int x4), (5, .int x5), (6, .int x6)] [] w f ca sa := by
  refine mm_iload h d_MD_nextOfStep_57 6 rfl ?_
  refine mm_aload_n h d_MD_nextOfStep_59 0 rfl rfl ?_
  refine mm_geti h fl_MD_71 rfl (is_MO hw) d_MD_nextOfStep_60 ?_
  refine mm_icmp_ge h d_MD_nextOfStep_63 (tgt := 170) (by decide) (fun c1 => ?_) (fun c1 => ?_)
  · skip
    refine mm_iload h d_MD_nextOfStep_170 5 rfl ?_
    refine mm_if_lt h d_MD_nextOfStep_172 (tgt := 197) (by decide) (fun c2 => ?_) (fun c2 => ?_)
    · skip
      exact (k0 c1 c2)
    · skip
      refine mm_aload_n h d_MD_nextOfStep_175 0 rfl rfl ?_
      refine mm_getr h fl_MD_44 rfl (is_MO hw) (rf_MO_latest hw) (is_Mlatest hw).1.1 d_MD_nextOfStep_176 ?_
      refine mm_iload_n h d_MD_nextOfStep_179 1 rfl rfl ?_
      refine mm_aload_n h d_MD_nextOfStep_180 0 rfl rfl ?_
      refine mm_getr h fl_MD_23 rfl (is_MO hw) (rf_MO_cells hw) (is_Mcells hw).1.1 d_MD_nextOfStep_181 ?_
      refine mm_iconst (v := 4) h d_MD_nextOfStep_184 (by decide) ?_
      refine mm_iload h d_MD_nextOfStep_185 5 rfl ?_
      refine mm_imul h d_MD_nextOfStep_187 ?_
      refine mm_iald h (is_Mcells hw) (b1 c1 c2) d_MD_nextOfStep_188 ?_
      refine mm_iast h (is_Mlatest hw) (b2 c1 c2) d_MD_nextOfStep_189 ?_
      refine mm_aload_n h d_MD_nextOfStep_190 0 rfl rfl ?_
      refine mm_getr h fl_MD_41 rfl (is_MO hw) (rf_MO_numbers hw) (is_Mnumbers hw).1.1 d_MD_nextOfStep_191 ?_
      refine mm_iload_n h d_MD_nextOfStep_194 1 rfl rfl ?_
      refine mm_iconst (v := 1) h d_MD_nextOfStep_195 (by decide) ?_
      refine mm_iast h (is_Mnumbers hw) (b2 c1 c2) d_MD_nextOfStep_196 ?_
      exact (k3 c1 c2)
  · skip
    refine mm_aload_n h d_MD_nextOfStep_66 0 rfl rfl ?_
    refine mm_getr h fl_MD_23 rfl (is_MO hw) (rf_MO_cells hw) (is_Mcells hw).1.1 d_MD_nextOfStep_67 ?_
    refine mm_iconst (v := 4) h d_MD_nextOfStep_70 (by decide) ?_
    refine mm_iload h d_MD_nextOfStep_71 6 rfl ?_
    refine mm_imul h d_MD_nextOfStep_73 ?_
    refine mm_iald h (is_Mcells hw) (b4 c1) d_MD_nextOfStep_74 ?_
    refine mm_istore (lv' := [(7, .int (f 141 ((4 * x6)).toNatClampNeg)), (0, mm_rf E 136), (1, .int x1), (2, .int x2), (3, .int x3), (4, .int x4), (5, .int x5), (6, .int x6)]) h d_MD_nextOfStep_75 (by decide) rfl ?_
    refine mm_aload_n h d_MD_nextOfStep_77 1 rfl rfl ?_
    refine mm_getr h fl_MD_20 rfl (is_MO hw) (rf_MO_of hw) (is_Mof hw).1.1 d_MD_nextOfStep_78 ?_
    refine mm_iload h d_MD_nextOfStep_81 7 rfl ?_
    refine mm_iald h (is_Mof hw) (b5 c1) d_MD_nextOfStep_83 ?_
    refine mm_iload_n h d_MD_nextOfStep_84 3 rfl rfl ?_
    refine mm_icmp_ne h d_MD_nextOfStep_85 (tgt := 128) (by decide) (fun c2 => ?_) (fun c2 => ?_)
    · skip
      refine mm_sub [1, 2, 3, 4, 5, 6, 7, 0] rfl ?_
      exact (k6 c1 c2)
    · skip
      refine mm_aload_n h d_MD_nextOfStep_88 1 rfl rfl ?_
      refine mm_getr h fl_MD_23 rfl (is_MO hw) (rf_MO_cells hw) (is_Mcells hw).1.1 d_MD_nextOfStep_89 ?_
      refine mm_iconst (v := 4) h d_MD_nextOfStep_92 (by decide) ?_
      refine mm_iload h d_MD_nextOfStep_93 7 rfl ?_
      refine mm_imul h d_MD_nextOfStep_95 ?_
      refine mm_iload_n h d_MD_nextOfStep_96 4 rfl rfl ?_
      refine mm_iadd h d_MD_nextOfStep_97 ?_
      refine mm_iald h (is_Mcells hw) (b7 c1 c2) d_MD_nextOfStep_98 ?_
      refine mm_iload h d_MD_nextOfStep_99 5 rfl ?_
      refine mm_icmp_ne h d_MD_nextOfStep_101 (tgt := 128) (by decide) (fun c3 => ?_) (fun c3 => ?_)
      · skip
        refine mm_sub [1, 2, 3, 4, 5, 6, 7, 0] rfl ?_
        exact (k8 c1 c2 c3)
      · skip
        refine mm_aload_n h d_MD_nextOfStep_104 1 rfl rfl ?_
        refine mm_getr h fl_MD_41 rfl (is_MO hw) (rf_MO_numbers hw) (is_Mnumbers hw).1.1 d_MD_nextOfStep_105 ?_
        refine mm_iload_n h d_MD_nextOfStep_108 2 rfl rfl ?_
        refine mm_iald h (is_Mnumbers hw) (b9 c1 c2 c3) d_MD_nextOfStep_109 ?_
        refine mm_if_eq h d_MD_nextOfStep_110 (tgt := 124) (by decide) (fun c4 => ?_) (fun c4 => ?_)
        · skip
          refine mm_sub [1, 2, 3, 4, 5, 6, 7, 0] rfl ?_
          exact (k10 c1 c2 c3 c4)
        · skip
          refine mm_iload h d_MD_nextOfStep_113 0 rfl ?_
          refine mm_aload_n h d_MD_nextOfStep_115 1 rfl rfl ?_
          refine mm_getr h fl_MD_44 rfl (is_MO hw) (rf_MO_latest hw) (is_Mlatest hw).1.1 d_MD_nextOfStep_116 ?_
          refine mm_iload_n h d_MD_nextOfStep_119 2 rfl rfl ?_
          refine mm_iald h (is_Mlatest hw) (b9 c1 c2 c3) d_MD_nextOfStep_120 ?_
          refine mm_icmp_le h d_MD_nextOfStep_121 (tgt := 128) (by decide) (fun c5 => ?_) (fun c5 => ?_)
          · skip
            refine mm_sub [1, 2, 3, 4, 5, 6, 7, 0] rfl ?_
            exact (k11 c1 c2 c3 c4 c5)
          · skip
            refine mm_sub [1, 2, 3, 4, 5, 6, 7, 0] rfl ?_
            exact (k12 c1 c2 c3 c4 c5)
theorem s_MD_nextOfStep_124 {E : mm_E} {Γ : mm_G} {lev kc ks ca sa : Nat} {w : mm_W} {f : mm_F} (h : mm_ok E Γ b_MD_nextOfStep 9 "PlannedTablesModel" lev kc ks) (hw : mm_sh w) {x1 : Int32} {x2 : Int32} {x3 : Int32} {x4 : Int32} {x5 : Int32} {x6 : Int32} {x7 : Int32} (k0 : mm_go E Γ 9 129 [(0, mm_rf E 136), (1, .int x1), (2, .int x2), (3, .int x3), (4, .int x4), (5, .int x5), (6, .int x6), (7, .int x7)] [.int 1] w f ca sa) : mm_go E Γ 9 124 [(0, mm_rf E 136), (1, .int x1), (2, .int x2), (3, .int x3), (4, .int x4), (5, .int x5), (6, .int x6), (7, .int x7)] [] w f ca sa := by
  refine mm_iconst (v := 1) h d_MD_nextOfStep_124 (by decide) ?_
  refine mm_goto h d_MD_nextOfStep_125 (tgt := 129) (by decide) ?_
  exact k0
theorem s_MD_nextOfStep_128 {E : mm_E} {Γ : mm_G} {lev kc ks ca sa : Nat} {w : mm_W} {f : mm_F} (h : mm_ok E Γ b_MD_nextOfStep 9 "PlannedTablesModel" lev kc ks) (hw : mm_sh w) {x1 : Int32} {x2 : Int32} {x3 : Int32} {x4 : Int32} {x5 : Int32} {x6 : Int32} {x7 : Int32} (k0 : mm_go E Γ 9 129 [(0, mm_rf E 136), (1, .int x1), (2, .int x2), (3, .int x3), (4, .int x4), (5, .int x5), (6, .int x6), (7, .int x7)] [.int 0] w f ca sa) : mm_go E Γ 9 128 [(0, mm_rf E 136), (1, .int x1), (2, .int x2), (3, .int x3), (4, .int x4), (5, .int x5), (6, .int x6), (7, .int x7)] [] w f ca sa := by
  refine mm_iconst (v := 0) h d_MD_nextOfStep_128 (by decide) ?_
  exact k0
theorem s_MD_nextOfStep_129 {E : mm_E} {Γ : mm_G} {lev kc ks ca sa : Nat} {w : mm_W} {f : mm_F} (h : mm_ok E Γ b_MD_nextOfStep 9 "PlannedTablesModel" lev kc ks) (hw : mm_sh w) {x1 : Int32} {x2 : Int32} {x3 : Int32} {x4 : Int32} {x5 : Int32} {x6 : Int32} {x7 : Int32} {xk0 : Int32} (k0 : xk0 = 0 → mm_go E Γ 9 160 [(0, mm_rf E 136), (1, .int x1), (2, .int x2), (3, .int x3), (4, .int x4), (5, .int x5), (6, .int x6), (7, .int x7), (8, .int xk0)] [] w f ca sa) (k1 : ¬ xk0 = 0 → x5 < 0 → mm_go E Γ 9 155 [(0, mm_rf E 136), (1, .int x1), (2, .int x2), (3, .int x3), (4, .int x4), (5, .int x5), (6, .int x6), (7, .int x7), (8, .int xk0)] [] w f ca sa) (b2 : ¬ xk0 = 0 → ¬ x5 < 0 → vp_in (4 * x5) 192) (k3 : ¬ xk0 = 0 → ¬ x5 < 0 → (f 141 ((4 * x5)).toNatClampNeg) ≤ x7 → mm_go E Γ 9 160 [(0, mm_rf E 136), (1, .int x1), (2, .int x2), (3, .int x3), (4, .int x4), (5, .int x5), (6, .int x6), (7, .int x7), (8, .int xk0)] [] w f ca sa) (k4 : ¬ xk0 = 0 → ¬ x5 < 0 → ¬ (f 141 ((4 * x5)).toNatClampNeg) ≤ x7 → mm_go E Γ 9 155 [(0, mm_rf E 136), (1, .int x1), (2, .int x2), (3, .int x3), (4, .int x4), (5, .int x5), (6, .int x6), (7, .int x7), (8, .int xk0)] [] w f ca sa) : mm_go E Γ 9 129 [(0, mm_rf E 136), (1, .int x1), (2, .int x2), (3, .int x3), (4, .int x4), (5, .int x5), (6, .int x6), (7, .int x7)] [.int xk0] w f ca sa := by
  refine mm_istore (lv' := [(8, .int xk0), (0, mm_rf E 136), (1, .int x1), (2, .int x2), (3, .int x3), (4, .int x4), (5, .int x5), (6, .int x6), (7, .int x7)]) h d_MD_nextOfStep_129 (by decide) rfl ?_
  refine mm_iload h d_MD_nextOfStep_131 0 rfl ?_
  refine mm_if_eq h d_MD_nextOfStep_133 (tgt := 160) (by decide) (fun c1 => ?_) (fun c1 => ?_)
  · skip
    refine mm_sub [1, 2, 3, 4, 5, 6, 7, 8, 0] rfl ?_
    exact (k0 c1)
  · skip
    refine mm_iload h d_MD_nextOfStep_136 6 rfl ?_
    refine mm_if_lt h d_MD_nextOfStep_138 (tgt := 155) (by decide) (fun c2 => ?_) (fun c2 => ?_)
    · skip
      refine mm_sub [1, 2, 3, 4, 5, 6, 7, 8, 0] rfl ?_
      exact (k1 c1 c2)
    · skip
      refine mm_iload h d_MD_nextOfStep_141 8 rfl ?_
      refine mm_aload_n h d_MD_nextOfStep_143 1 rfl rfl ?_
      refine mm_getr h fl_MD_23 rfl (is_MO hw) (rf_MO_cells hw) (is_Mcells hw).1.1 d_MD_nextOfStep_144 ?_
      refine mm_iconst (v := 4) h d_MD_nextOfStep_147 (by decide) ?_
      refine mm_iload h d_MD_nextOfStep_148 6 rfl ?_
      refine mm_imul h d_MD_nextOfStep_150 ?_
      refine mm_iald h (is_Mcells hw) (b2 c1 c2) d_MD_nextOfStep_151 ?_
      refine mm_icmp_ge h d_MD_nextOfStep_152 (tgt := 160) (by decide) (fun c3 => ?_) (fun c3 => ?_)
      · skip
        refine mm_sub [1, 2, 3, 4, 5, 6, 7, 8, 0] rfl ?_
        exact (k3 c1 c2 c3)
      · skip
        refine mm_sub [1, 2, 3, 4, 5, 6, 7, 8, 0] rfl ?_
        exact (k4 c1 c2 c3)
theorem s_MD_nextOfStep_155 {E : mm_E} {Γ : mm_G} {lev kc ks ca sa : Nat} {w : mm_W} {f : mm_F} (h : mm_ok E Γ b_MD_nextOfStep 9 "PlannedTablesModel" lev kc ks) (hw : mm_sh w) {x1 : Int32} {x2 : Int32} {x3 : Int32} {x4 : Int32} {x5 : Int32} {x6 : Int32} {x7 : Int32} {x8 : Int32} (k0 : mm_go E Γ 9 162 [(0, mm_rf E 136), (1, .int x1), (2, .int x2), (3, .int x3), (4, .int x4), (5, .int x5), (6, .int x6), (7, .int x7), (8, .int x8)] [.int x6] w f ca sa) : mm_go E Γ 9 155 [(0, mm_rf E 136), (1, .int x1), (2, .int x2), (3, .int x3), (4, .int x4), (5, .int x5), (6, .int x6), (7, .int x7), (8, .int x8)] [] w f ca sa := by
  refine mm_iload h d_MD_nextOfStep_155 6 rfl ?_
  refine mm_goto h d_MD_nextOfStep_157 (tgt := 162) (by decide) ?_
  exact k0
theorem s_MD_nextOfStep_160 {E : mm_E} {Γ : mm_G} {lev kc ks ca sa : Nat} {w : mm_W} {f : mm_F} (h : mm_ok E Γ b_MD_nextOfStep 9 "PlannedTablesModel" lev kc ks) (hw : mm_sh w) {x1 : Int32} {x2 : Int32} {x3 : Int32} {x4 : Int32} {x5 : Int32} {x6 : Int32} {x7 : Int32} {x8 : Int32} (k0 : mm_go E Γ 9 162 [(0, mm_rf E 136), (1, .int x1), (2, .int x2), (3, .int x3), (4, .int x4), (5, .int x5), (6, .int x6), (7, .int x7), (8, .int x8)] [.int x5] w f ca sa) : mm_go E Γ 9 160 [(0, mm_rf E 136), (1, .int x1), (2, .int x2), (3, .int x3), (4, .int x4), (5, .int x5), (6, .int x6), (7, .int x7), (8, .int x8)] [] w f ca sa := by
  refine mm_iload h d_MD_nextOfStep_160 5 rfl ?_
  exact k0
theorem s_MD_nextOfStep_162 {E : mm_E} {Γ : mm_G} {lev kc ks ca sa : Nat} {w : mm_W} {f : mm_F} (h : mm_ok E Γ b_MD_nextOfStep 9 "PlannedTablesModel" lev kc ks) (hw : mm_sh w) {x1 : Int32} {x2 : Int32} {x3 : Int32} {x4 : Int32} {x5 : Int32} {x6 : Int32} {x7 : Int32} {x8 : Int32} {xk0 : Int32} (k0 : mm_go E Γ 9 57 [(0, mm_rf E 136), (1, .int x1), (2, .int x2), (3, .int x3), (4, .int x4), (5, .int xk0), (6, .int (x6 + 1))] [] w f ca sa) : mm_go E Γ 9 162 [(0, mm_rf E 136), (1, .int x1), (2, .int x2), (3, .int x3), (4, .int x4), (5, .int x5), (6, .int x6), (7, .int x7), (8, .int x8)] [.int xk0] w f ca sa := by
  refine mm_istore (lv' := [(5, .int xk0), (0, mm_rf E 136), (1, .int x1), (2, .int x2), (3, .int x3), (4, .int x4), (6, .int x6), (7, .int x7), (8, .int x8)]) h d_MD_nextOfStep_162 (by decide) rfl ?_
  refine mm_iinc (lv' := [(6, .int (x6 + 1)), (5, .int xk0), (0, mm_rf E 136), (1, .int x1), (2, .int x2), (3, .int x3), (4, .int x4), (7, .int x7), (8, .int x8)]) h d_MD_nextOfStep_164 6 rfl (congrArg (fun z => x6 + z) lit1) (by decide) rfl ?_
  refine mm_goto h d_MD_nextOfStep_167 (tgt := 57) (by decide) ?_
  refine mm_sub [2, 3, 4, 5, 6, 1, 0] rfl ?_
  exact k0
theorem s_MD_nextOfStep_197 {E : mm_E} {Γ : mm_G} {lev kc ks ca sa : Nat} {w : mm_W} {f : mm_F} {Post : Option Value → mm_W → mm_F → Prop} (h : mm_ok E Γ b_MD_nextOfStep 9 "PlannedTablesModel" lev kc ks) (he : mm_end E Γ (some .int) kc ks Post y_MD_nextOfStep.name) (hca : ca ≤ kc) (hsa : sa ≤ ks) (hw : mm_sh w) {x1 : Int32} {x2 : Int32} {x3 : Int32} {x4 : Int32} {x5 : Int32} {x6 : Int32} (k0 : Post (some (.int x5)) w f) : mm_go E Γ 9 197 [(0, mm_rf E 136), (1, .int x1), (2, .int x2), (3, .int x3), (4, .int x4), (5, .int x5), (6, .int x6)] [] w f ca sa := by
  refine mm_iload h d_MD_nextOfStep_197 5 rfl ?_
  exact mm_iret h he rfl d_MD_nextOfStep_199 hca hsa k0
theorem d_MD_passes_0 : decode b_MD_passes 0 = .ok (.iload_n 0, 1) := by decide +kernel
theorem d_MD_passes_1 : decode b_MD_passes 1 = .ok (.tableswitch (90) (0) (4) #[(35), (46), (57), (68), (79)], 35) := by decide +kernel
theorem d_MD_passes_36 : decode b_MD_passes 36 = .ok (.iload_n 1, 1) := by decide +kernel
theorem d_MD_passes_37 : decode b_MD_passes 37 = .ok (.iload_n 2, 1) := by decide +kernel
theorem d_MD_passes_38 : decode b_MD_passes 38 = .ok (.if_icmp .ge (7), 3) := by decide +kernel
theorem d_MD_passes_41 : decode b_MD_passes 41 = .ok (.iconst (1), 1) := by decide +kernel
theorem d_MD_passes_42 : decode b_MD_passes 42 = .ok (.goto (4), 3) := by decide +kernel
theorem d_MD_passes_45 : decode b_MD_passes 45 = .ok (.iconst (0), 1) := by decide +kernel
theorem d_MD_passes_46 : decode b_MD_passes 46 = .ok (.ireturn, 1) := by decide +kernel
theorem d_MD_passes_47 : decode b_MD_passes 47 = .ok (.iload_n 1, 1) := by decide +kernel
theorem d_MD_passes_48 : decode b_MD_passes 48 = .ok (.iload_n 2, 1) := by decide +kernel
theorem d_MD_passes_49 : decode b_MD_passes 49 = .ok (.if_icmp .gt (7), 3) := by decide +kernel
theorem d_MD_passes_52 : decode b_MD_passes 52 = .ok (.iconst (1), 1) := by decide +kernel
theorem d_MD_passes_53 : decode b_MD_passes 53 = .ok (.goto (4), 3) := by decide +kernel
theorem d_MD_passes_56 : decode b_MD_passes 56 = .ok (.iconst (0), 1) := by decide +kernel
theorem d_MD_passes_57 : decode b_MD_passes 57 = .ok (.ireturn, 1) := by decide +kernel
theorem d_MD_passes_58 : decode b_MD_passes 58 = .ok (.iload_n 1, 1) := by decide +kernel
theorem d_MD_passes_59 : decode b_MD_passes 59 = .ok (.iload_n 2, 1) := by decide +kernel
theorem d_MD_passes_60 : decode b_MD_passes 60 = .ok (.if_icmp .ne (7), 3) := by decide +kernel
theorem d_MD_passes_63 : decode b_MD_passes 63 = .ok (.iconst (1), 1) := by decide +kernel
theorem d_MD_passes_64 : decode b_MD_passes 64 = .ok (.goto (4), 3) := by decide +kernel
theorem d_MD_passes_67 : decode b_MD_passes 67 = .ok (.iconst (0), 1) := by decide +kernel
theorem d_MD_passes_68 : decode b_MD_passes 68 = .ok (.ireturn, 1) := by decide +kernel
theorem d_MD_passes_69 : decode b_MD_passes 69 = .ok (.iload_n 1, 1) := by decide +kernel
theorem d_MD_passes_70 : decode b_MD_passes 70 = .ok (.iload_n 2, 1) := by decide +kernel
theorem d_MD_passes_71 : decode b_MD_passes 71 = .ok (.if_icmp .eq (7), 3) := by decide +kernel
theorem d_MD_passes_74 : decode b_MD_passes 74 = .ok (.iconst (1), 1) := by decide +kernel
theorem d_MD_passes_75 : decode b_MD_passes 75 = .ok (.goto (4), 3) := by decide +kernel
theorem d_MD_passes_78 : decode b_MD_passes 78 = .ok (.iconst (0), 1) := by decide +kernel
theorem d_MD_passes_79 : decode b_MD_passes 79 = .ok (.ireturn, 1) := by decide +kernel
theorem d_MD_passes_80 : decode b_MD_passes 80 = .ok (.iload_n 1, 1) := by decide +kernel
theorem d_MD_passes_81 : decode b_MD_passes 81 = .ok (.iload_n 2, 1) := by decide +kernel
theorem d_MD_passes_82 : decode b_MD_passes 82 = .ok (.if_icmp .lt (7), 3) := by decide +kernel
theorem d_MD_passes_85 : decode b_MD_passes 85 = .ok (.iconst (1), 1) := by decide +kernel
theorem d_MD_passes_86 : decode b_MD_passes 86 = .ok (.goto (4), 3) := by decide +kernel
theorem d_MD_passes_89 : decode b_MD_passes 89 = .ok (.iconst (0), 1) := by decide +kernel
theorem d_MD_passes_90 : decode b_MD_passes 90 = .ok (.ireturn, 1) := by decide +kernel
theorem d_MD_passes_91 : decode b_MD_passes 91 = .ok (.iload_n 1, 1) := by decide +kernel
theorem d_MD_passes_92 : decode b_MD_passes 92 = .ok (.iload_n 2, 1) := by decide +kernel
theorem d_MD_passes_93 : decode b_MD_passes 93 = .ok (.if_icmp .le (7), 3) := by decide +kernel
theorem d_MD_passes_96 : decode b_MD_passes 96 = .ok (.iconst (1), 1) := by decide +kernel
theorem d_MD_passes_97 : decode b_MD_passes 97 = .ok (.goto (4), 3) := by decide +kernel
theorem d_MD_passes_100 : decode b_MD_passes 100 = .ok (.iconst (0), 1) := by decide +kernel
theorem d_MD_passes_101 : decode b_MD_passes 101 = .ok (.ireturn, 1) := by decide +kernel
theorem s_MD_passes_0 {E : mm_E} {Γ : mm_G} {lev kc ks ca sa : Nat} {w : mm_W} {f : mm_F} (h : mm_ok E Γ b_MD_passes 3 "PlannedTablesModel" lev kc ks) (hw : mm_sh w) {x0 : Int32} {x1 : Int32} {x2 : Int32} (k0 : x0 = 0 → mm_go E Γ 3 36 [(0, .int x0), (1, .int x1), (2, .int x2)] [] w f ca sa) (k1 : ¬ x0 = 0 → x0 = 1 → mm_go E Γ 3 47 [(0, .int x0), (1, .int x1), (2, .int x2)] [] w f ca sa) (k2 : ¬ x0 = 0 → ¬ x0 = 1 → x0 = 2 → mm_go E Γ 3 58 [(0, .int x0), (1, .int x1), (2, .int x2)] [] w f ca sa) (k3 : ¬ x0 = 0 → ¬ x0 = 1 → ¬ x0 = 2 → x0 = 3 → mm_go E Γ 3 69 [(0, .int x0), (1, .int x1), (2, .int x2)] [] w f ca sa) (k4 : ¬ x0 = 0 → ¬ x0 = 1 → ¬ x0 = 2 → ¬ x0 = 3 → x0 = 4 → mm_go E Γ 3 80 [(0, .int x0), (1, .int x1), (2, .int x2)] [] w f ca sa) (k5 : ¬ x0 = 0 → ¬ x0 = 1 → ¬ x0 = 2 → ¬ x0 = 3 → ¬ x0 = 4 → mm_go E Γ 3 91 [(0, .int x0), (1, .int x1), (2, .int x2)] [] w f ca sa) : mm_go E Γ 3 0 [(0, .int x0), (1, .int x1), (2, .int x2)] [] w f ca sa := by
  refine mm_iload_n h d_MD_passes_0 0 rfl rfl ?_
  by_cases c1 : x0 = 0
  · refine mm_tin h d_MD_passes_1 (by rw [c1]; decide) (by rw [c1]; decide) (off := 35) (by rw [c1]; rfl) (tgt := 36) (by decide) ?_
    exact (k0 c1)
  by_cases c2 : x0 = 1
  · refine mm_tin h d_MD_passes_1 (by rw [c2]; decide) (by rw [c2]; decide) (off := 46) (by rw [c2]; rfl) (tgt := 47) (by decide) ?_
    exact (k1 c1 c2)
  by_cases c3 : x0 = 2
  · refine mm_tin h d_MD_passes_1 (by rw [c3]; decide) (by rw [c3]; decide) (off := 57) (by rw [c3]; rfl) (tgt := 58) (by decide) ?_
    exact (k2 c1 c2 c3)
  by_cases c4 : x0 = 3
  · refine mm_tin h d_MD_passes_1 (by rw [c4]; decide) (by rw [c4]; decide) (off := 68) (by rw [c4]; rfl) (tgt := 69) (by decide) ?_
    exact (k3 c1 c2 c3 c4)
  by_cases c5 : x0 = 4
  · refine mm_tin h d_MD_passes_1 (by rw [c5]; decide) (by rw [c5]; decide) (off := 79) (by rw [c5]; rfl) (tgt := 80) (by decide) ?_
    exact (k4 c1 c2 c3 c4 c5)
  refine mm_tout h d_MD_passes_1 (by have q0 := mm_ne 0 0 (by decide) c1; have q1 := mm_ne 1 1 (by decide) c2; have q2 := mm_ne 2 2 (by decide) c3; have q3 := mm_ne 3 3 (by decide) c4; have q4 := mm_ne 4 4 (by decide) c5; omega) (tgt := 91) (by decide) ?_
  exact (k5 c1 c2 c3 c4 c5)
theorem s_MD_passes_36 {E : mm_E} {Γ : mm_G} {lev kc ks ca sa : Nat} {w : mm_W} {f : mm_F} (h : mm_ok E Γ b_MD_passes 3 "PlannedTablesModel" lev kc ks) (hw : mm_sh w) {x0 : Int32} {x1 : Int32} {x2 : Int32} (k0 : x2 ≤ x1 → mm_go E Γ 3 46 [(0, .int x0), (1, .int x1), (2, .int x2)] [.int 0] w f ca sa) (k1 : ¬ x2 ≤ x1 → mm_go E Γ 3 46 [(0, .int x0), (1, .int x1), (2, .int x2)] [.int 1] w f ca sa) : mm_go E Γ 3 36 [(0, .int x0), (1, .int x1), (2, .int x2)] [] w f ca sa := by
  refine mm_iload_n h d_MD_passes_36 1 rfl rfl ?_
  refine mm_iload_n h d_MD_passes_37 2 rfl rfl ?_
  refine mm_icmp_ge h d_MD_passes_38 (tgt := 45) (by decide) (fun c1 => ?_) (fun c1 => ?_)
  · skip
    refine mm_iconst (v := 0) h d_MD_passes_45 (by decide) ?_
    exact (k0 c1)
  · skip
    refine mm_iconst (v := 1) h d_MD_passes_41 (by decide) ?_
    refine mm_goto h d_MD_passes_42 (tgt := 46) (by decide) ?_
    exact (k1 c1)
theorem s_MD_passes_46 {E : mm_E} {Γ : mm_G} {lev kc ks ca sa : Nat} {w : mm_W} {f : mm_F} {Post : Option Value → mm_W → mm_F → Prop} (h : mm_ok E Γ b_MD_passes 3 "PlannedTablesModel" lev kc ks) (he : mm_end E Γ (some .boolean) kc ks Post y_MD_passes.name) (hca : ca ≤ kc) (hsa : sa ≤ ks) (hw : mm_sh w) {x0 : Int32} {x1 : Int32} {x2 : Int32} {xk0 : Int32} (k0 : Post (some (.int xk0)) w f) (n1 : narrow .boolean (.int xk0) = .int xk0) : mm_go E Γ 3 46 [(0, .int x0), (1, .int x1), (2, .int x2)] [.int xk0] w f ca sa := by
  exact mm_iret h he n1 d_MD_passes_46 hca hsa k0
theorem s_MD_passes_47 {E : mm_E} {Γ : mm_G} {lev kc ks ca sa : Nat} {w : mm_W} {f : mm_F} (h : mm_ok E Γ b_MD_passes 3 "PlannedTablesModel" lev kc ks) (hw : mm_sh w) {x0 : Int32} {x1 : Int32} {x2 : Int32} (k0 : x2 < x1 → mm_go E Γ 3 57 [(0, .int x0), (1, .int x1), (2, .int x2)] [.int 0] w f ca sa) (k1 : ¬ x2 < x1 → mm_go E Γ 3 57 [(0, .int x0), (1, .int x1), (2, .int x2)] [.int 1] w f ca sa) : mm_go E Γ 3 47 [(0, .int x0), (1, .int x1), (2, .int x2)] [] w f ca sa := by
  refine mm_iload_n h d_MD_passes_47 1 rfl rfl ?_
  refine mm_iload_n h d_MD_passes_48 2 rfl rfl ?_
  refine mm_icmp_gt h d_MD_passes_49 (tgt := 56) (by decide) (fun c1 => ?_) (fun c1 => ?_)
  · skip
    refine mm_iconst (v := 0) h d_MD_passes_56 (by decide) ?_
    exact (k0 c1)
  · skip
    refine mm_iconst (v := 1) h d_MD_passes_52 (by decide) ?_
    refine mm_goto h d_MD_passes_53 (tgt := 57) (by decide) ?_
    exact (k1 c1)
theorem s_MD_passes_57 {E : mm_E} {Γ : mm_G} {lev kc ks ca sa : Nat} {w : mm_W} {f : mm_F} {Post : Option Value → mm_W → mm_F → Prop} (h : mm_ok E Γ b_MD_passes 3 "PlannedTablesModel" lev kc ks) (he : mm_end E Γ (some .boolean) kc ks Post y_MD_passes.name) (hca : ca ≤ kc) (hsa : sa ≤ ks) (hw : mm_sh w) {x0 : Int32} {x1 : Int32} {x2 : Int32} {xk0 : Int32} (k0 : Post (some (.int xk0)) w f) (n1 : narrow .boolean (.int xk0) = .int xk0) : mm_go E Γ 3 57 [(0, .int x0), (1, .int x1), (2, .int x2)] [.int xk0] w f ca sa := by
  exact mm_iret h he n1 d_MD_passes_57 hca hsa k0
theorem s_MD_passes_58 {E : mm_E} {Γ : mm_G} {lev kc ks ca sa : Nat} {w : mm_W} {f : mm_F} (h : mm_ok E Γ b_MD_passes 3 "PlannedTablesModel" lev kc ks) (hw : mm_sh w) {x0 : Int32} {x1 : Int32} {x2 : Int32} (k0 : ¬ x1 = x2 → mm_go E Γ 3 68 [(0, .int x0), (1, .int x1), (2, .int x2)] [.int 0] w f ca sa) (k1 : x1 = x2 → mm_go E Γ 3 68 [(0, .int x0), (1, .int x1), (2, .int x2)] [.int 1] w f ca sa) : mm_go E Γ 3 58 [(0, .int x0), (1, .int x1), (2, .int x2)] [] w f ca sa := by
  refine mm_iload_n h d_MD_passes_58 1 rfl rfl ?_
  refine mm_iload_n h d_MD_passes_59 2 rfl rfl ?_
  refine mm_icmp_ne h d_MD_passes_60 (tgt := 67) (by decide) (fun c1 => ?_) (fun c1 => ?_)
  · skip
    refine mm_iconst (v := 0) h d_MD_passes_67 (by decide) ?_
    exact (k0 c1)
  · skip
    refine mm_iconst (v := 1) h d_MD_passes_63 (by decide) ?_
    refine mm_goto h d_MD_passes_64 (tgt := 68) (by decide) ?_
    exact (k1 c1)
theorem s_MD_passes_68 {E : mm_E} {Γ : mm_G} {lev kc ks ca sa : Nat} {w : mm_W} {f : mm_F} {Post : Option Value → mm_W → mm_F → Prop} (h : mm_ok E Γ b_MD_passes 3 "PlannedTablesModel" lev kc ks) (he : mm_end E Γ (some .boolean) kc ks Post y_MD_passes.name) (hca : ca ≤ kc) (hsa : sa ≤ ks) (hw : mm_sh w) {x0 : Int32} {x1 : Int32} {x2 : Int32} {xk0 : Int32} (k0 : Post (some (.int xk0)) w f) (n1 : narrow .boolean (.int xk0) = .int xk0) : mm_go E Γ 3 68 [(0, .int x0), (1, .int x1), (2, .int x2)] [.int xk0] w f ca sa := by
  exact mm_iret h he n1 d_MD_passes_68 hca hsa k0
theorem s_MD_passes_69 {E : mm_E} {Γ : mm_G} {lev kc ks ca sa : Nat} {w : mm_W} {f : mm_F} (h : mm_ok E Γ b_MD_passes 3 "PlannedTablesModel" lev kc ks) (hw : mm_sh w) {x0 : Int32} {x1 : Int32} {x2 : Int32} (k0 : x1 = x2 → mm_go E Γ 3 79 [(0, .int x0), (1, .int x1), (2, .int x2)] [.int 0] w f ca sa) (k1 : ¬ x1 = x2 → mm_go E Γ 3 79 [(0, .int x0), (1, .int x1), (2, .int x2)] [.int 1] w f ca sa) : mm_go E Γ 3 69 [(0, .int x0), (1, .int x1), (2, .int x2)] [] w f ca sa := by
  refine mm_iload_n h d_MD_passes_69 1 rfl rfl ?_
  refine mm_iload_n h d_MD_passes_70 2 rfl rfl ?_
  refine mm_icmp_eq h d_MD_passes_71 (tgt := 78) (by decide) (fun c1 => ?_) (fun c1 => ?_)
  · skip
    refine mm_iconst (v := 0) h d_MD_passes_78 (by decide) ?_
    exact (k0 c1)
  · skip
    refine mm_iconst (v := 1) h d_MD_passes_74 (by decide) ?_
    refine mm_goto h d_MD_passes_75 (tgt := 79) (by decide) ?_
    exact (k1 c1)
theorem s_MD_passes_79 {E : mm_E} {Γ : mm_G} {lev kc ks ca sa : Nat} {w : mm_W} {f : mm_F} {Post : Option Value → mm_W → mm_F → Prop} (h : mm_ok E Γ b_MD_passes 3 "PlannedTablesModel" lev kc ks) (he : mm_end E Γ (some .boolean) kc ks Post y_MD_passes.name) (hca : ca ≤ kc) (hsa : sa ≤ ks) (hw : mm_sh w) {x0 : Int32} {x1 : Int32} {x2 : Int32} {xk0 : Int32} (k0 : Post (some (.int xk0)) w f) (n1 : narrow .boolean (.int xk0) = .int xk0) : mm_go E Γ 3 79 [(0, .int x0), (1, .int x1), (2, .int x2)] [.int xk0] w f ca sa := by
  exact mm_iret h he n1 d_MD_passes_79 hca hsa k0
theorem s_MD_passes_80 {E : mm_E} {Γ : mm_G} {lev kc ks ca sa : Nat} {w : mm_W} {f : mm_F} (h : mm_ok E Γ b_MD_passes 3 "PlannedTablesModel" lev kc ks) (hw : mm_sh w) {x0 : Int32} {x1 : Int32} {x2 : Int32} (k0 : x1 < x2 → mm_go E Γ 3 90 [(0, .int x0), (1, .int x1), (2, .int x2)] [.int 0] w f ca sa) (k1 : ¬ x1 < x2 → mm_go E Γ 3 90 [(0, .int x0), (1, .int x1), (2, .int x2)] [.int 1] w f ca sa) : mm_go E Γ 3 80 [(0, .int x0), (1, .int x1), (2, .int x2)] [] w f ca sa := by
  refine mm_iload_n h d_MD_passes_80 1 rfl rfl ?_
  refine mm_iload_n h d_MD_passes_81 2 rfl rfl ?_
  refine mm_icmp_lt h d_MD_passes_82 (tgt := 89) (by decide) (fun c1 => ?_) (fun c1 => ?_)
  · skip
    refine mm_iconst (v := 0) h d_MD_passes_89 (by decide) ?_
    exact (k0 c1)
  · skip
    refine mm_iconst (v := 1) h d_MD_passes_85 (by decide) ?_
    refine mm_goto h d_MD_passes_86 (tgt := 90) (by decide) ?_
    exact (k1 c1)
theorem s_MD_passes_90 {E : mm_E} {Γ : mm_G} {lev kc ks ca sa : Nat} {w : mm_W} {f : mm_F} {Post : Option Value → mm_W → mm_F → Prop} (h : mm_ok E Γ b_MD_passes 3 "PlannedTablesModel" lev kc ks) (he : mm_end E Γ (some .boolean) kc ks Post y_MD_passes.name) (hca : ca ≤ kc) (hsa : sa ≤ ks) (hw : mm_sh w) {x0 : Int32} {x1 : Int32} {x2 : Int32} {xk0 : Int32} (k0 : Post (some (.int xk0)) w f) (n1 : narrow .boolean (.int xk0) = .int xk0) : mm_go E Γ 3 90 [(0, .int x0), (1, .int x1), (2, .int x2)] [.int xk0] w f ca sa := by
  exact mm_iret h he n1 d_MD_passes_90 hca hsa k0
theorem s_MD_passes_91 {E : mm_E} {Γ : mm_G} {lev kc ks ca sa : Nat} {w : mm_W} {f : mm_F} (h : mm_ok E Γ b_MD_passes 3 "PlannedTablesModel" lev kc ks) (hw : mm_sh w) {x0 : Int32} {x1 : Int32} {x2 : Int32} (k0 : x1 ≤ x2 → mm_go E Γ 3 101 [(0, .int x0), (1, .int x1), (2, .int x2)] [.int 0] w f ca sa) (k1 : ¬ x1 ≤ x2 → mm_go E Γ 3 101 [(0, .int x0), (1, .int x1), (2, .int x2)] [.int 1] w f ca sa) : mm_go E Γ 3 91 [(0, .int x0), (1, .int x1), (2, .int x2)] [] w f ca sa := by
  refine mm_iload_n h d_MD_passes_91 1 rfl rfl ?_
  refine mm_iload_n h d_MD_passes_92 2 rfl rfl ?_
  refine mm_icmp_le h d_MD_passes_93 (tgt := 100) (by decide) (fun c1 => ?_) (fun c1 => ?_)
  · skip
    refine mm_iconst (v := 0) h d_MD_passes_100 (by decide) ?_
    exact (k0 c1)
  · skip
    refine mm_iconst (v := 1) h d_MD_passes_96 (by decide) ?_
    refine mm_goto h d_MD_passes_97 (tgt := 101) (by decide) ?_
    exact (k1 c1)
theorem s_MD_passes_101 {E : mm_E} {Γ : mm_G} {lev kc ks ca sa : Nat} {w : mm_W} {f : mm_F} {Post : Option Value → mm_W → mm_F → Prop} (h : mm_ok E Γ b_MD_passes 3 "PlannedTablesModel" lev kc ks) (he : mm_end E Γ (some .boolean) kc ks Post y_MD_passes.name) (hca : ca ≤ kc) (hsa : sa ≤ ks) (hw : mm_sh w) {x0 : Int32} {x1 : Int32} {x2 : Int32} {xk0 : Int32} (k0 : Post (some (.int xk0)) w f) (n1 : narrow .boolean (.int xk0) = .int xk0) : mm_go E Γ 3 101 [(0, .int x0), (1, .int x1), (2, .int x2)] [.int xk0] w f ca sa := by
  exact mm_iret h he n1 d_MD_passes_101 hca hsa k0
theorem d_MD_choose_0 : decode b_MD_choose 0 = .ok (.aload_n 0, 1) := by decide +kernel
theorem d_MD_choose_1 : decode b_MD_choose 1 = .ok (.getfield 26, 3) := by decide +kernel
theorem d_MD_choose_4 : decode b_MD_choose 4 = .ok (.aload_n 0, 1) := by decide +kernel
theorem d_MD_choose_5 : decode b_MD_choose 5 = .ok (.getfield 32, 3) := by decide +kernel
theorem d_MD_choose_8 : decode b_MD_choose 8 = .ok (.iload_n 1, 1) := by decide +kernel
theorem d_MD_choose_9 : decode b_MD_choose 9 = .ok (.iaload, 1) := by decide +kernel
theorem d_MD_choose_10 : decode b_MD_choose 10 = .ok (.iaload, 1) := by decide +kernel
theorem d_MD_choose_11 : decode b_MD_choose 11 = .ok (.istore_n 2, 1) := by decide +kernel
theorem d_MD_choose_12 : decode b_MD_choose 12 = .ok (.iconst (0), 1) := by decide +kernel
theorem d_MD_choose_13 : decode b_MD_choose 13 = .ok (.istore_n 3, 1) := by decide +kernel
theorem d_MD_choose_14 : decode b_MD_choose 14 = .ok (.iload_n 3, 1) := by decide +kernel
theorem d_MD_choose_15 : decode b_MD_choose 15 = .ok (.bipush (8), 2) := by decide +kernel
theorem d_MD_choose_17 : decode b_MD_choose 17 = .ok (.if_icmp .ge (26), 3) := by decide +kernel
theorem d_MD_choose_20 : decode b_MD_choose 20 = .ok (.aload_n 0, 1) := by decide +kernel
theorem d_MD_choose_21 : decode b_MD_choose 21 = .ok (.getfield 50, 3) := by decide +kernel
theorem d_MD_choose_24 : decode b_MD_choose 24 = .ok (.bipush (8), 2) := by decide +kernel
theorem d_MD_choose_26 : decode b_MD_choose 26 = .ok (.iload_n 1, 1) := by decide +kernel
theorem d_MD_choose_27 : decode b_MD_choose 27 = .ok (.imul, 1) := by decide +kernel
theorem d_MD_choose_28 : decode b_MD_choose 28 = .ok (.iload_n 3, 1) := by decide +kernel
theorem d_MD_choose_29 : decode b_MD_choose 29 = .ok (.iadd, 1) := by decide +kernel
theorem d_MD_choose_30 : decode b_MD_choose 30 = .ok (.aload_n 0, 1) := by decide +kernel
theorem d_MD_choose_31 : decode b_MD_choose 31 = .ok (.getfield 38, 3) := by decide +kernel
theorem d_MD_choose_34 : decode b_MD_choose 34 = .ok (.iload_n 3, 1) := by decide +kernel
theorem d_MD_choose_35 : decode b_MD_choose 35 = .ok (.iaload, 1) := by decide +kernel
theorem d_MD_choose_36 : decode b_MD_choose 36 = .ok (.iastore, 1) := by decide +kernel
theorem d_MD_choose_37 : decode b_MD_choose 37 = .ok (.iinc 3 (1), 3) := by decide +kernel
theorem d_MD_choose_40 : decode b_MD_choose 40 = .ok (.goto (-26), 3) := by decide +kernel
theorem d_MD_choose_43 : decode b_MD_choose 43 = .ok (.iconst (0), 1) := by decide +kernel
theorem d_MD_choose_44 : decode b_MD_choose 44 = .ok (.istore_n 3, 1) := by decide +kernel
theorem d_MD_choose_45 : decode b_MD_choose 45 = .ok (.iload_n 3, 1) := by decide +kernel
theorem d_MD_choose_46 : decode b_MD_choose 46 = .ok (.iload_n 2, 1) := by decide +kernel
theorem d_MD_choose_47 : decode b_MD_choose 47 = .ok (.if_icmp .ge (40), 3) := by decide +kernel
theorem d_MD_choose_50 : decode b_MD_choose 50 = .ok (.aload_n 0, 1) := by decide +kernel
theorem d_MD_choose_51 : decode b_MD_choose 51 = .ok (.getfield 38, 3) := by decide +kernel
theorem d_MD_choose_54 : decode b_MD_choose 54 = .ok (.iload_n 3, 1) := by decide +kernel
theorem d_MD_choose_55 : decode b_MD_choose 55 = .ok (.aload_n 0, 1) := by decide +kernel
theorem d_MD_choose_56 : decode b_MD_choose 56 = .ok (.getfield 50, 3) := by decide +kernel
theorem d_MD_choose_59 : decode b_MD_choose 59 = .ok (.bipush (8), 2) := by decide +kernel
theorem d_MD_choose_61 : decode b_MD_choose 61 = .ok (.iload_n 1, 1) := by decide +kernel
theorem d_MD_choose_62 : decode b_MD_choose 62 = .ok (.imul, 1) := by decide +kernel
theorem d_MD_choose_63 : decode b_MD_choose 63 = .ok (.aload_n 0, 1) := by decide +kernel
theorem d_MD_choose_64 : decode b_MD_choose 64 = .ok (.getfield 26, 3) := by decide +kernel
theorem d_MD_choose_67 : decode b_MD_choose 67 = .ok (.aload_n 0, 1) := by decide +kernel
theorem d_MD_choose_68 : decode b_MD_choose 68 = .ok (.getfield 32, 3) := by decide +kernel
theorem d_MD_choose_71 : decode b_MD_choose 71 = .ok (.iload_n 1, 1) := by decide +kernel
theorem d_MD_choose_72 : decode b_MD_choose 72 = .ok (.iaload, 1) := by decide +kernel
theorem d_MD_choose_73 : decode b_MD_choose 73 = .ok (.iconst (1), 1) := by decide +kernel
theorem d_MD_choose_74 : decode b_MD_choose 74 = .ok (.iadd, 1) := by decide +kernel
theorem d_MD_choose_75 : decode b_MD_choose 75 = .ok (.iload_n 3, 1) := by decide +kernel
theorem d_MD_choose_76 : decode b_MD_choose 76 = .ok (.iadd, 1) := by decide +kernel
theorem d_MD_choose_77 : decode b_MD_choose 77 = .ok (.iaload, 1) := by decide +kernel
theorem d_MD_choose_78 : decode b_MD_choose 78 = .ok (.iadd, 1) := by decide +kernel
theorem d_MD_choose_79 : decode b_MD_choose 79 = .ok (.iaload, 1) := by decide +kernel
theorem d_MD_choose_80 : decode b_MD_choose 80 = .ok (.iastore, 1) := by decide +kernel
theorem d_MD_choose_81 : decode b_MD_choose 81 = .ok (.iinc 3 (1), 3) := by decide +kernel
theorem d_MD_choose_84 : decode b_MD_choose 84 = .ok (.goto (-39), 3) := by decide +kernel
theorem d_MD_choose_87 : decode b_MD_choose 87 = .ok (.aload_n 0, 1) := by decide +kernel
theorem d_MD_choose_88 : decode b_MD_choose 88 = .ok (.iload_n 2, 1) := by decide +kernel
theorem d_MD_choose_89 : decode b_MD_choose 89 = .ok (.putfield 138, 3) := by decide +kernel
theorem d_MD_choose_92 : decode b_MD_choose 92 = .ok (.return_, 1) := by decide +kernel
theorem s_MD_choose_0 {E : mm_E} {Γ : mm_G} {lev kc ks ca sa : Nat} {w : mm_W} {f : mm_F} (h : mm_ok E Γ b_MD_choose 4 "PlannedTablesModel" lev kc ks) (hw : mm_sh w) {x1 : Int32} (b0 : vp_in x1 40) (b1 : vp_in (f 144 (x1).toNatClampNeg) 40) (k2 : mm_go E Γ 4 14 [(0, mm_rf E 136), (1, .int x1), (2, .int (f 142 ((f 144 (x1).toNatClampNeg)).toNatClampNeg)), (3, .int 0)] [] w f ca sa) : mm_go E Γ 4 0 [(0, mm_rf E 136), (1, .int x1)] [] w f ca sa := by
  refine mm_aload_n h d_MD_choose_0 0 rfl rfl ?_
  refine mm_getr h fl_MD_26 rfl (is_MO hw) (rf_MO_plan hw) (is_Mplan hw).1.1 d_MD_choose_1 ?_
  refine mm_aload_n h d_MD_choose_4 0 rfl rfl ?_
  refine mm_getr h fl_MD_32 rfl (is_MO hw) (rf_MO_at hw) (is_Mat hw).1.1 d_MD_choose_5 ?_
  refine mm_iload_n h d_MD_choose_8 1 rfl rfl ?_
  refine mm_iald h (is_Mat hw) b0 d_MD_choose_9 ?_
  refine mm_iald h (is_Mplan hw) b1 d_MD_choose_10 ?_
  refine mm_istore_n (lv' := [(2, .int (f 142 ((f 144 (x1).toNatClampNeg)).toNatClampNeg)), (0, mm_rf E 136), (1, .int x1)]) h d_MD_choose_11 rfl (by decide) rfl ?_
  refine mm_iconst (v := 0) h d_MD_choose_12 (by decide) ?_
  refine mm_istore_n (lv' := [(3, .int 0), (2, .int (f 142 ((f 144 (x1).toNatClampNeg)).toNatClampNeg)), (0, mm_rf E 136), (1, .int x1)]) h d_MD_choose_13 rfl (by decide) rfl ?_
  refine mm_sub [2, 3, 1, 0] rfl ?_
  exact k2
theorem s_MD_choose_14 {E : mm_E} {Γ : mm_G} {lev kc ks ca sa : Nat} {w : mm_W} {f : mm_F} (h : mm_ok E Γ b_MD_choose 4 "PlannedTablesModel" lev kc ks) (hw : mm_sh w) {x1 : Int32} {x2 : Int32} {x3 : Int32} (k0 : 8 ≤ x3 → mm_go E Γ 4 45 [(0, mm_rf E 136), (1, .int x1), (2, .int x2), (3, .int 0)] [] w f ca sa) (b1 : ¬ 8 ≤ x3 → vp_in x3 8) (b2 : ¬ 8 ≤ x3 → vp_in ((8 * x1) + x3) 320) (k3 : ¬ 8 ≤ x3 → mm_go E Γ 4 14 [(0, mm_rf E 136), (1, .int x1), (2, .int x2), (3, .int (x3 + 1))] [] w (mm_up f 150 (((8 * x1) + x3)).toNatClampNeg (f 146 (x3).toNatClampNeg)) ca sa) : mm_go E Γ 4 14 [(0, mm_rf E 136), (1, .int x1), (2, .int x2), (3, .int x3)] [] w f ca sa := by
  refine mm_iload_n h d_MD_choose_14 3 rfl rfl ?_
  refine mm_bipush (v := 8) h d_MD_choose_15 (by decide) ?_
  refine mm_icmp_ge h d_MD_choose_17 (tgt := 43) (by decide) (fun c1 => ?_) (fun c1 => ?_)
  · skip
    refine mm_iconst (v := 0) h d_MD_choose_43 (by decide) ?_
    refine mm_istore_n (lv' := [(3, .int 0), (0, mm_rf E 136), (1, .int x1), (2, .int x2)]) h d_MD_choose_44 rfl (by decide) rfl ?_
    refine mm_sub [1, 2, 3, 0] rfl ?_
    exact (k0 c1)
  · skip
    refine mm_aload_n h d_MD_choose_20 0 rfl rfl ?_
    refine mm_getr h fl_MD_50 rfl (is_MO hw) (rf_MO_lefts hw) (is_Mlefts hw).1.1 d_MD_choose_21 ?_
    refine mm_bipush (v := 8) h d_MD_choose_24 (by decide) ?_
    refine mm_iload_n h d_MD_choose_26 1 rfl rfl ?_
    refine mm_imul h d_MD_choose_27 ?_
    refine mm_iload_n h d_MD_choose_28 3 rfl rfl ?_
    refine mm_iadd h d_MD_choose_29 ?_
    refine mm_aload_n h d_MD_choose_30 0 rfl rfl ?_
    refine mm_getr h fl_MD_38 rfl (is_MO hw) (rf_MO_row hw) (is_Mrow hw).1.1 d_MD_choose_31 ?_
    refine mm_iload_n h d_MD_choose_34 3 rfl rfl ?_
    refine mm_iald h (is_Mrow hw) (b1 c1) d_MD_choose_35 ?_
    refine mm_iast h (is_Mlefts hw) (b2 c1) d_MD_choose_36 ?_
    refine mm_iinc (lv' := [(3, .int (x3 + 1)), (0, mm_rf E 136), (1, .int x1), (2, .int x2)]) h d_MD_choose_37 3 rfl (congrArg (fun z => x3 + z) lit1) (by decide) rfl ?_
    refine mm_goto h d_MD_choose_40 (tgt := 14) (by decide) ?_
    refine mm_sub [1, 2, 3, 0] rfl ?_
    exact (k3 c1)
theorem s_MD_choose_45 {E : mm_E} {Γ : mm_G} {lev kc ks ca sa : Nat} {w : mm_W} {f : mm_F} {Post : Option Value → mm_W → mm_F → Prop} (h : mm_ok E Γ b_MD_choose 4 "PlannedTablesModel" lev kc ks) (he : mm_end E Γ none kc ks Post y_MD_choose.name) (hca : ca ≤ kc) (hsa : sa ≤ ks) (hw : mm_sh w) {x1 : Int32} {x2 : Int32} {x3 : Int32} (k0 : x2 ≤ x3 → Post none w (mm_up f 136 20 x2)) (b1 : ¬ x2 ≤ x3 → vp_in x1 40) (b2 : ¬ x2 ≤ x3 → vp_in (((f 144 (x1).toNatClampNeg) + 1) + x3) 40) (b3 : ¬ x2 ≤ x3 → vp_in ((8 * x1) + (f 142 ((((f 144 (x1).toNatClampNeg) + 1) + x3)).toNatClampNeg)) 320) (b4 : ¬ x2 ≤ x3 → vp_in x3 8) (k5 : ¬ x2 ≤ x3 → mm_go E Γ 4 45 [(0, mm_rf E 136), (1, .int x1), (2, .int x2), (3, .int (x3 + 1))] [] w (mm_up f 146 (x3).toNatClampNeg (f 150 (((8 * x1) + (f 142 ((((f 144 (x1).toNatClampNeg) + 1) + x3)).toNatClampNeg))).toNatClampNeg)) ca sa) : mm_go E Γ 4 45 [(0, mm_rf E 136), (1, .int x1), (2, .int x2), (3, .int x3)] [] w f ca sa := by
  refine mm_iload_n h d_MD_choose_45 3 rfl rfl ?_
  refine mm_iload_n h d_MD_choose_46 2 rfl rfl ?_
  refine mm_icmp_ge h d_MD_choose_47 (tgt := 87) (by decide) (fun c1 => ?_) (fun c1 => ?_)
  · skip
    refine mm_aload_n h d_MD_choose_87 0 rfl rfl ?_
    refine mm_iload_n h d_MD_choose_88 2 rfl rfl ?_
    refine mm_puti h fl_MD_138 (Or.inl rfl) rfl rfl rfl (is_MO hw) d_MD_choose_89 ?_
    exact mm_vret h he d_MD_choose_92 hca hsa (k0 c1)
  · skip
    refine mm_aload_n h d_MD_choose_50 0 rfl rfl ?_
    refine mm_getr h fl_MD_38 rfl (is_MO hw) (rf_MO_row hw) (is_Mrow hw).1.1 d_MD_choose_51 ?_
    refine mm_iload_n h d_MD_choose_54 3 rfl rfl ?_
    refine mm_aload_n h d_MD_choose_55 0 rfl rfl ?_
    refine mm_getr h fl_MD_50 rfl (is_MO hw) (rf_MO_lefts hw) (is_Mlefts hw).1.1 d_MD_choose_56 ?_
    refine mm_bipush (v := 8) h d_MD_choose_59 (by decide) ?_
    refine mm_iload_n h d_MD_choose_61 1 rfl rfl ?_
    refine mm_imul h d_MD_choose_62 ?_
    refine mm_aload_n h d_MD_choose_63 0 rfl rfl ?_
    refine mm_getr h fl_MD_26 rfl (is_MO hw) (rf_MO_plan hw) (is_Mplan hw).1.1 d_MD_choose_64 ?_
    refine mm_aload_n h d_MD_choose_67 0 rfl rfl ?_
    refine mm_getr h fl_MD_32 rfl (is_MO hw) (rf_MO_at hw) (is_Mat hw).1.1 d_MD_choose_68 ?_
    refine mm_iload_n h d_MD_choose_71 1 rfl rfl ?_
    refine mm_iald h (is_Mat hw) (b1 c1) d_MD_choose_72 ?_
    refine mm_iconst (v := 1) h d_MD_choose_73 (by decide) ?_
    refine mm_iadd h d_MD_choose_74 ?_
    refine mm_iload_n h d_MD_choose_75 3 rfl rfl ?_
    refine mm_iadd h d_MD_choose_76 ?_
    refine mm_iald h (is_Mplan hw) (b2 c1) d_MD_choose_77 ?_
    refine mm_iadd h d_MD_choose_78 ?_
    refine mm_iald h (is_Mlefts hw) (b3 c1) d_MD_choose_79 ?_
    refine mm_iast h (is_Mrow hw) (b4 c1) d_MD_choose_80 ?_
    refine mm_iinc (lv' := [(3, .int (x3 + 1)), (0, mm_rf E 136), (1, .int x1), (2, .int x2)]) h d_MD_choose_81 3 rfl (congrArg (fun z => x3 + z) lit1) (by decide) rfl ?_
    refine mm_goto h d_MD_choose_84 (tgt := 45) (by decide) ?_
    refine mm_sub [1, 2, 3, 0] rfl ?_
    exact (k5 c1)
theorem d_MD_hold_0 : decode b_MD_hold 0 = .ok (.iconst (0), 1) := by decide +kernel
theorem d_MD_hold_1 : decode b_MD_hold 1 = .ok (.istore_n 3, 1) := by decide +kernel
theorem d_MD_hold_2 : decode b_MD_hold 2 = .ok (.iload_n 3, 1) := by decide +kernel
theorem d_MD_hold_3 : decode b_MD_hold 3 = .ok (.iload_n 2, 1) := by decide +kernel
theorem d_MD_hold_4 : decode b_MD_hold 4 = .ok (.if_icmp .ge (26), 3) := by decide +kernel
theorem d_MD_hold_7 : decode b_MD_hold 7 = .ok (.aload_n 0, 1) := by decide +kernel
theorem d_MD_hold_8 : decode b_MD_hold 8 = .ok (.getfield 50, 3) := by decide +kernel
theorem d_MD_hold_11 : decode b_MD_hold 11 = .ok (.bipush (8), 2) := by decide +kernel
theorem d_MD_hold_13 : decode b_MD_hold 13 = .ok (.iload_n 1, 1) := by decide +kernel
theorem d_MD_hold_14 : decode b_MD_hold 14 = .ok (.imul, 1) := by decide +kernel
theorem d_MD_hold_15 : decode b_MD_hold 15 = .ok (.iload_n 3, 1) := by decide +kernel
theorem d_MD_hold_16 : decode b_MD_hold 16 = .ok (.iadd, 1) := by decide +kernel
theorem d_MD_hold_17 : decode b_MD_hold 17 = .ok (.aload_n 0, 1) := by decide +kernel
theorem d_MD_hold_18 : decode b_MD_hold 18 = .ok (.getfield 38, 3) := by decide +kernel
theorem d_MD_hold_21 : decode b_MD_hold 21 = .ok (.iload_n 3, 1) := by decide +kernel
theorem d_MD_hold_22 : decode b_MD_hold 22 = .ok (.iaload, 1) := by decide +kernel
theorem d_MD_hold_23 : decode b_MD_hold 23 = .ok (.iastore, 1) := by decide +kernel
theorem d_MD_hold_24 : decode b_MD_hold 24 = .ok (.iinc 3 (1), 3) := by decide +kernel
theorem d_MD_hold_27 : decode b_MD_hold 27 = .ok (.goto (-25), 3) := by decide +kernel
theorem d_MD_hold_30 : decode b_MD_hold 30 = .ok (.aload_n 0, 1) := by decide +kernel
theorem d_MD_hold_31 : decode b_MD_hold 31 = .ok (.getfield 47, 3) := by decide +kernel
theorem d_MD_hold_34 : decode b_MD_hold 34 = .ok (.iload_n 1, 1) := by decide +kernel
theorem d_MD_hold_35 : decode b_MD_hold 35 = .ok (.iconst (1), 1) := by decide +kernel
theorem d_MD_hold_36 : decode b_MD_hold 36 = .ok (.bastore, 1) := by decide +kernel
theorem d_MD_hold_37 : decode b_MD_hold 37 = .ok (.aload_n 0, 1) := by decide +kernel
theorem d_MD_hold_38 : decode b_MD_hold 38 = .ok (.getfield 41, 3) := by decide +kernel
theorem d_MD_hold_41 : decode b_MD_hold 41 = .ok (.iload_n 1, 1) := by decide +kernel
theorem d_MD_hold_42 : decode b_MD_hold 42 = .ok (.iconst (0), 1) := by decide +kernel
theorem d_MD_hold_43 : decode b_MD_hold 43 = .ok (.iastore, 1) := by decide +kernel
theorem d_MD_hold_44 : decode b_MD_hold 44 = .ok (.return_, 1) := by decide +kernel
theorem s_MD_hold_0 {E : mm_E} {Γ : mm_G} {lev kc ks ca sa : Nat} {w : mm_W} {f : mm_F} (h : mm_ok E Γ b_MD_hold 4 "PlannedTablesModel" lev kc ks) (hw : mm_sh w) {x1 : Int32} {x2 : Int32} (k0 : mm_go E Γ 4 2 [(0, mm_rf E 136), (1, .int x1), (2, .int x2), (3, .int 0)] [] w f ca sa) : mm_go E Γ 4 0 [(0, mm_rf E 136), (1, .int x1), (2, .int x2)] [] w f ca sa := by
  refine mm_iconst (v := 0) h d_MD_hold_0 (by decide) ?_
  refine mm_istore_n (lv' := [(3, .int 0), (0, mm_rf E 136), (1, .int x1), (2, .int x2)]) h d_MD_hold_1 rfl (by decide) rfl ?_
  refine mm_sub [1, 2, 3, 0] rfl ?_
  exact k0
theorem s_MD_hold_2 {E : mm_E} {Γ : mm_G} {lev kc ks ca sa : Nat} {w : mm_W} {f : mm_F} {Post : Option Value → mm_W → mm_F → Prop} (h : mm_ok E Γ b_MD_hold 4 "PlannedTablesModel" lev kc ks) (he : mm_end E Γ none kc ks Post y_MD_hold.name) (hca : ca ≤ kc) (hsa : sa ≤ ks) (hw : mm_sh w) {x1 : Int32} {x2 : Int32} {x3 : Int32} (b0 : x2 ≤ x3 → vp_in x1 40) (k1 : x2 ≤ x3 → Post none w (mm_up (mm_up f 149 (x1).toNatClampNeg 1) 147 (x1).toNatClampNeg 0)) (b2 : ¬ x2 ≤ x3 → vp_in x3 8) (b3 : ¬ x2 ≤ x3 → vp_in ((8 * x1) + x3) 320) (k4 : ¬ x2 ≤ x3 → mm_go E Γ 4 2 [(0, mm_rf E 136), (1, .int x1), (2, .int x2), (3, .int (x3 + 1))] [] w (mm_up f 150 (((8 * x1) + x3)).toNatClampNeg (f 146 (x3).toNatClampNeg)) ca sa) : mm_go E Γ 4 2 [(0, mm_rf E 136), (1, .int x1), (2, .int x2), (3, .int x3)] [] w f ca sa := by
  refine mm_iload_n h d_MD_hold_2 3 rfl rfl ?_
  refine mm_iload_n h d_MD_hold_3 2 rfl rfl ?_
  refine mm_icmp_ge h d_MD_hold_4 (tgt := 30) (by decide) (fun c1 => ?_) (fun c1 => ?_)
  · skip
    refine mm_aload_n h d_MD_hold_30 0 rfl rfl ?_
    refine mm_getr h fl_MD_47 rfl (is_MO hw) (rf_MO_has hw) (is_Mhas hw).1.1 d_MD_hold_31 ?_
    refine mm_iload_n h d_MD_hold_34 1 rfl rfl ?_
    refine mm_iconst (v := 1) h d_MD_hold_35 (by decide) ?_
    refine mm_zast h rfl (is_Mhas hw) (b0 c1) d_MD_hold_36 ?_
    refine mm_aload_n h d_MD_hold_37 0 rfl rfl ?_
    refine mm_getr h fl_MD_41 rfl (is_MO hw) (rf_MO_numbers hw) (is_Mnumbers hw).1.1 d_MD_hold_38 ?_
    refine mm_iload_n h d_MD_hold_41 1 rfl rfl ?_
    refine mm_iconst (v := 0) h d_MD_hold_42 (by decide) ?_
    refine mm_iast h (is_Mnumbers hw) (b0 c1) d_MD_hold_43 ?_
    exact mm_vret h he d_MD_hold_44 hca hsa (k1 c1)
  · skip
    refine mm_aload_n h d_MD_hold_7 0 rfl rfl ?_
    refine mm_getr h fl_MD_50 rfl (is_MO hw) (rf_MO_lefts hw) (is_Mlefts hw).1.1 d_MD_hold_8 ?_
    refine mm_bipush (v := 8) h d_MD_hold_11 (by decide) ?_
    refine mm_iload_n h d_MD_hold_13 1 rfl rfl ?_
    refine mm_imul h d_MD_hold_14 ?_
    refine mm_iload_n h d_MD_hold_15 3 rfl rfl ?_
    refine mm_iadd h d_MD_hold_16 ?_
    refine mm_aload_n h d_MD_hold_17 0 rfl rfl ?_
    refine mm_getr h fl_MD_38 rfl (is_MO hw) (rf_MO_row hw) (is_Mrow hw).1.1 d_MD_hold_18 ?_
    refine mm_iload_n h d_MD_hold_21 3 rfl rfl ?_
    refine mm_iald h (is_Mrow hw) (b2 c1) d_MD_hold_22 ?_
    refine mm_iast h (is_Mlefts hw) (b3 c1) d_MD_hold_23 ?_
    refine mm_iinc (lv' := [(3, .int (x3 + 1)), (0, mm_rf E 136), (1, .int x1), (2, .int x2)]) h d_MD_hold_24 3 rfl (congrArg (fun z => x3 + z) lit1) (by decide) rfl ?_
    refine mm_goto h d_MD_hold_27 (tgt := 2) (by decide) ?_
    refine mm_sub [1, 2, 3, 0] rfl ?_
    exact (k4 c1)
theorem d_MD_runEnds_0 : decode b_MD_runEnds 0 = .ok (.aload_n 0, 1) := by decide +kernel
theorem d_MD_runEnds_1 : decode b_MD_runEnds 1 = .ok (.getfield 38, 3) := by decide +kernel
theorem d_MD_runEnds_4 : decode b_MD_runEnds 4 = .ok (.aload_n 0, 1) := by decide +kernel
theorem d_MD_runEnds_5 : decode b_MD_runEnds 5 = .ok (.getfield 26, 3) := by decide +kernel
theorem d_MD_runEnds_8 : decode b_MD_runEnds 8 = .ok (.aload_n 0, 1) := by decide +kernel
theorem d_MD_runEnds_9 : decode b_MD_runEnds 9 = .ok (.getfield 32, 3) := by decide +kernel
theorem d_MD_runEnds_12 : decode b_MD_runEnds 12 = .ok (.iload_n 1, 1) := by decide +kernel
theorem d_MD_runEnds_13 : decode b_MD_runEnds 13 = .ok (.iaload, 1) := by decide +kernel
theorem d_MD_runEnds_14 : decode b_MD_runEnds 14 = .ok (.iaload, 1) := by decide +kernel
theorem d_MD_runEnds_15 : decode b_MD_runEnds 15 = .ok (.iaload, 1) := by decide +kernel
theorem d_MD_runEnds_16 : decode b_MD_runEnds 16 = .ok (.istore_n 2, 1) := by decide +kernel
theorem d_MD_runEnds_17 : decode b_MD_runEnds 17 = .ok (.aload_n 0, 1) := by decide +kernel
theorem d_MD_runEnds_18 : decode b_MD_runEnds 18 = .ok (.getfield 47, 3) := by decide +kernel
theorem d_MD_runEnds_21 : decode b_MD_runEnds 21 = .ok (.iload_n 1, 1) := by decide +kernel
theorem d_MD_runEnds_22 : decode b_MD_runEnds 22 = .ok (.baload, 1) := by decide +kernel
theorem d_MD_runEnds_23 : decode b_MD_runEnds 23 = .ok (.ifCond .eq (17), 3) := by decide +kernel
theorem d_MD_runEnds_26 : decode b_MD_runEnds 26 = .ok (.aload_n 0, 1) := by decide +kernel
theorem d_MD_runEnds_27 : decode b_MD_runEnds 27 = .ok (.getfield 44, 3) := by decide +kernel
theorem d_MD_runEnds_30 : decode b_MD_runEnds 30 = .ok (.iload_n 1, 1) := by decide +kernel
theorem d_MD_runEnds_31 : decode b_MD_runEnds 31 = .ok (.iaload, 1) := by decide +kernel
theorem d_MD_runEnds_32 : decode b_MD_runEnds 32 = .ok (.iload_n 2, 1) := by decide +kernel
theorem d_MD_runEnds_33 : decode b_MD_runEnds 33 = .ok (.if_icmp .eq (7), 3) := by decide +kernel
theorem d_MD_runEnds_36 : decode b_MD_runEnds 36 = .ok (.iconst (1), 1) := by decide +kernel
theorem d_MD_runEnds_37 : decode b_MD_runEnds 37 = .ok (.goto (4), 3) := by decide +kernel
theorem d_MD_runEnds_40 : decode b_MD_runEnds 40 = .ok (.iconst (0), 1) := by decide +kernel
theorem d_MD_runEnds_41 : decode b_MD_runEnds 41 = .ok (.istore_n 3, 1) := by decide +kernel
theorem d_MD_runEnds_42 : decode b_MD_runEnds 42 = .ok (.iload_n 3, 1) := by decide +kernel
theorem d_MD_runEnds_43 : decode b_MD_runEnds 43 = .ok (.ifCond .eq (32), 3) := by decide +kernel
theorem d_MD_runEnds_46 : decode b_MD_runEnds 46 = .ok (.aload_n 0, 1) := by decide +kernel
theorem d_MD_runEnds_47 : decode b_MD_runEnds 47 = .ok (.getfield 38, 3) := by decide +kernel
theorem d_MD_runEnds_50 : decode b_MD_runEnds 50 = .ok (.iconst (0), 1) := by decide +kernel
theorem d_MD_runEnds_51 : decode b_MD_runEnds 51 = .ok (.aload_n 0, 1) := by decide +kernel
theorem d_MD_runEnds_52 : decode b_MD_runEnds 52 = .ok (.getfield 44, 3) := by decide +kernel
theorem d_MD_runEnds_55 : decode b_MD_runEnds 55 = .ok (.iload_n 1, 1) := by decide +kernel
theorem d_MD_runEnds_56 : decode b_MD_runEnds 56 = .ok (.iaload, 1) := by decide +kernel
theorem d_MD_runEnds_57 : decode b_MD_runEnds 57 = .ok (.iastore, 1) := by decide +kernel
theorem d_MD_runEnds_58 : decode b_MD_runEnds 58 = .ok (.aload_n 0, 1) := by decide +kernel
theorem d_MD_runEnds_59 : decode b_MD_runEnds 59 = .ok (.getfield 38, 3) := by decide +kernel
theorem d_MD_runEnds_62 : decode b_MD_runEnds 62 = .ok (.iconst (1), 1) := by decide +kernel
theorem d_MD_runEnds_63 : decode b_MD_runEnds 63 = .ok (.aload_n 0, 1) := by decide +kernel
theorem d_MD_runEnds_64 : decode b_MD_runEnds 64 = .ok (.getfield 41, 3) := by decide +kernel
theorem d_MD_runEnds_67 : decode b_MD_runEnds 67 = .ok (.iload_n 1, 1) := by decide +kernel
theorem d_MD_runEnds_68 : decode b_MD_runEnds 68 = .ok (.iaload, 1) := by decide +kernel
theorem d_MD_runEnds_69 : decode b_MD_runEnds 69 = .ok (.iastore, 1) := by decide +kernel
theorem d_MD_runEnds_70 : decode b_MD_runEnds 70 = .ok (.aload_n 0, 1) := by decide +kernel
theorem d_MD_runEnds_71 : decode b_MD_runEnds 71 = .ok (.iconst (2), 1) := by decide +kernel
theorem d_MD_runEnds_72 : decode b_MD_runEnds 72 = .ok (.putfield 138, 3) := by decide +kernel
theorem d_MD_runEnds_75 : decode b_MD_runEnds 75 = .ok (.aload_n 0, 1) := by decide +kernel
theorem d_MD_runEnds_76 : decode b_MD_runEnds 76 = .ok (.getfield 41, 3) := by decide +kernel
theorem d_MD_runEnds_79 : decode b_MD_runEnds 79 = .ok (.iload_n 1, 1) := by decide +kernel
theorem d_MD_runEnds_80 : decode b_MD_runEnds 80 = .ok (.aload_n 0, 1) := by decide +kernel
theorem d_MD_runEnds_81 : decode b_MD_runEnds 81 = .ok (.getfield 47, 3) := by decide +kernel
theorem d_MD_runEnds_84 : decode b_MD_runEnds 84 = .ok (.iload_n 1, 1) := by decide +kernel
theorem d_MD_runEnds_85 : decode b_MD_runEnds 85 = .ok (.baload, 1) := by decide +kernel
theorem d_MD_runEnds_86 : decode b_MD_runEnds 86 = .ok (.ifCond .eq (18), 3) := by decide +kernel
theorem d_MD_runEnds_89 : decode b_MD_runEnds 89 = .ok (.iload_n 3, 1) := by decide +kernel
theorem d_MD_runEnds_90 : decode b_MD_runEnds 90 = .ok (.ifCond .ne (14), 3) := by decide +kernel
theorem d_MD_runEnds_93 : decode b_MD_runEnds 93 = .ok (.aload_n 0, 1) := by decide +kernel
theorem d_MD_runEnds_94 : decode b_MD_runEnds 94 = .ok (.getfield 41, 3) := by decide +kernel
theorem d_MD_runEnds_97 : decode b_MD_runEnds 97 = .ok (.iload_n 1, 1) := by decide +kernel
theorem d_MD_runEnds_98 : decode b_MD_runEnds 98 = .ok (.iaload, 1) := by decide +kernel
theorem d_MD_runEnds_99 : decode b_MD_runEnds 99 = .ok (.iconst (1), 1) := by decide +kernel
theorem d_MD_runEnds_100 : decode b_MD_runEnds 100 = .ok (.iadd, 1) := by decide +kernel
theorem d_MD_runEnds_101 : decode b_MD_runEnds 101 = .ok (.goto (4), 3) := by decide +kernel
theorem d_MD_runEnds_104 : decode b_MD_runEnds 104 = .ok (.iconst (1), 1) := by decide +kernel
theorem d_MD_runEnds_105 : decode b_MD_runEnds 105 = .ok (.iastore, 1) := by decide +kernel
theorem d_MD_runEnds_106 : decode b_MD_runEnds 106 = .ok (.aload_n 0, 1) := by decide +kernel
theorem d_MD_runEnds_107 : decode b_MD_runEnds 107 = .ok (.getfield 44, 3) := by decide +kernel
theorem d_MD_runEnds_110 : decode b_MD_runEnds 110 = .ok (.iload_n 1, 1) := by decide +kernel
theorem d_MD_runEnds_111 : decode b_MD_runEnds 111 = .ok (.iload_n 2, 1) := by decide +kernel
theorem d_MD_runEnds_112 : decode b_MD_runEnds 112 = .ok (.iastore, 1) := by decide +kernel
theorem d_MD_runEnds_113 : decode b_MD_runEnds 113 = .ok (.aload_n 0, 1) := by decide +kernel
theorem d_MD_runEnds_114 : decode b_MD_runEnds 114 = .ok (.getfield 47, 3) := by decide +kernel
theorem d_MD_runEnds_117 : decode b_MD_runEnds 117 = .ok (.iload_n 1, 1) := by decide +kernel
theorem d_MD_runEnds_118 : decode b_MD_runEnds 118 = .ok (.iconst (1), 1) := by decide +kernel
theorem d_MD_runEnds_119 : decode b_MD_runEnds 119 = .ok (.bastore, 1) := by decide +kernel
theorem d_MD_runEnds_120 : decode b_MD_runEnds 120 = .ok (.iload_n 3, 1) := by decide +kernel
theorem d_MD_runEnds_121 : decode b_MD_runEnds 121 = .ok (.ireturn, 1) := by decide +kernel
theorem s_MD_runEnds_0 {E : mm_E} {Γ : mm_G} {lev kc ks ca sa : Nat} {w : mm_W} {f : mm_F} (h : mm_ok E Γ b_MD_runEnds 4 "PlannedTablesModel" lev kc ks) (hw : mm_sh w) {x1 : Int32} (b0 : vp_in x1 40) (b1 : vp_in (f 144 (x1).toNatClampNeg) 40) (b2 : vp_in (f 142 ((f 144 (x1).toNatClampNeg)).toNatClampNeg) 8) (k3 : (f 149 (x1).toNatClampNeg) = 0 → mm_go E Γ 4 40 [(0, mm_rf E 136), (1, .int x1), (2, .int (f 146 ((f 142 ((f 144 (x1).toNatClampNeg)).toNatClampNeg)).toNatClampNeg))] [] w f ca sa) (k4 : ¬ (f 149 (x1).toNatClampNeg) = 0 → (f 148 (x1).toNatClampNeg) = (f 146 ((f 142 ((f 144 (x1).toNatClampNeg)).toNatClampNeg)).toNatClampNeg) → mm_go E Γ 4 40 [(0, mm_rf E 136), (1, .int x1), (2, .int (f 146 ((f 142 ((f 144 (x1).toNatClampNeg)).toNatClampNeg)).toNatClampNeg))] [] w f ca sa) (k5 : ¬ (f 149 (x1).toNatClampNeg) = 0 → ¬ (f 148 (x1).toNatClampNeg) = (f 146 ((f 142 ((f 144 (x1).toNatClampNeg)).toNatClampNeg)).toNatClampNeg) → mm_go E Γ 4 41 [(0, mm_rf E 136), (1, .int x1), (2, .int (f 146 ((f 142 ((f 144 (x1).toNatClampNeg)).toNatClampNeg)).toNatClampNeg))] [.int 1] w f ca sa) : mm_go E Γ 4 0 [(0, mm_rf E 136), (1, .int x1)] [] w f ca sa := by
  refine mm_aload_n h d_MD_runEnds_0 0 rfl rfl ?_
  refine mm_getr h fl_MD_38 rfl (is_MO hw) (rf_MO_row hw) (is_Mrow hw).1.1 d_MD_runEnds_1 ?_
  refine mm_aload_n h d_MD_runEnds_4 0 rfl rfl ?_
  refine mm_getr h fl_MD_26 rfl (is_MO hw) (rf_MO_plan hw) (is_Mplan hw).1.1 d_MD_runEnds_5 ?_
  refine mm_aload_n h d_MD_runEnds_8 0 rfl rfl ?_
  refine mm_getr h fl_MD_32 rfl (is_MO hw) (rf_MO_at hw) (is_Mat hw).1.1 d_MD_runEnds_9 ?_
  refine mm_iload_n h d_MD_runEnds_12 1 rfl rfl ?_
  refine mm_iald h (is_Mat hw) b0 d_MD_runEnds_13 ?_
  refine mm_iald h (is_Mplan hw) b1 d_MD_runEnds_14 ?_
  refine mm_iald h (is_Mrow hw) b2 d_MD_runEnds_15 ?_
  refine mm_istore_n (lv' := [(2, .int (f 146 ((f 142 ((f 144 (x1).toNatClampNeg)).toNatClampNeg)).toNatClampNeg)), (0, mm_rf E 136), (1, .int x1)]) h d_MD_runEnds_16 rfl (by decide) rfl ?_
  refine mm_aload_n h d_MD_runEnds_17 1 rfl rfl ?_
  refine mm_getr h fl_MD_47 rfl (is_MO hw) (rf_MO_has hw) (is_Mhas hw).1.1 d_MD_runEnds_18 ?_
  refine mm_iload_n h d_MD_runEnds_21 2 rfl rfl ?_
  refine mm_zald h (is_Mhas hw) b0 d_MD_runEnds_22 ?_
  refine mm_if_eq h d_MD_runEnds_23 (tgt := 40) (by decide) (fun c1 => ?_) (fun c1 => ?_)
  · skip
    refine mm_sub [1, 2, 0] rfl ?_
    exact (k3 c1)
  · skip
    refine mm_aload_n h d_MD_runEnds_26 1 rfl rfl ?_
    refine mm_getr h fl_MD_44 rfl (is_MO hw) (rf_MO_latest hw) (is_Mlatest hw).1.1 d_MD_runEnds_27 ?_
    refine mm_iload_n h d_MD_runEnds_30 2 rfl rfl ?_
    refine mm_iald h (is_Mlatest hw) b0 d_MD_runEnds_31 ?_
    refine mm_iload_n h d_MD_runEnds_32 0 rfl rfl ?_
    refine mm_icmp_eq h d_MD_runEnds_33 (tgt := 40) (by decide) (fun c2 => ?_) (fun c2 => ?_)
    · skip
      refine mm_sub [1, 2, 0] rfl ?_
      exact (k4 c1 c2)
    · skip
      refine mm_iconst (v := 1) h d_MD_runEnds_36 (by decide) ?_
      refine mm_goto h d_MD_runEnds_37 (tgt := 41) (by decide) ?_
      refine mm_sub [1, 2, 0] rfl ?_
      exact (k5 c1 c2)
theorem s_MD_runEnds_40 {E : mm_E} {Γ : mm_G} {lev kc ks ca sa : Nat} {w : mm_W} {f : mm_F} (h : mm_ok E Γ b_MD_runEnds 4 "PlannedTablesModel" lev kc ks) (hw : mm_sh w) {x1 : Int32} {x2 : Int32} (k0 : mm_go E Γ 4 41 [(0, mm_rf E 136), (1, .int x1), (2, .int x2)] [.int 0] w f ca sa) : mm_go E Γ 4 40 [(0, mm_rf E 136), (1, .int x1), (2, .int x2)] [] w f ca sa := by
  refine mm_iconst (v := 0) h d_MD_runEnds_40 (by decide) ?_
  exact k0
theorem s_MD_runEnds_41 {E : mm_E} {Γ : mm_G} {lev kc ks ca sa : Nat} {w : mm_W} {f : mm_F} (h : mm_ok E Γ b_MD_runEnds 4 "PlannedTablesModel" lev kc ks) (hw : mm_sh w) {x1 : Int32} {x2 : Int32} {xk0 : Int32} (k0 : xk0 = 0 → mm_go E Γ 4 75 [(0, mm_rf E 136), (1, .int x1), (2, .int x2), (3, .int xk0)] [] w f ca sa) (b1 : ¬ xk0 = 0 → vp_in x1 40) (k2 : ¬ xk0 = 0 → mm_go E Γ 4 75 [(0, mm_rf E 136), (1, .int x1), (2, .int x2), (3, .int xk0)] [] w (mm_up (mm_up (mm_up f 146 0 (f 148 (x1).toNatClampNeg)) 146 1 ((mm_up f 146 0 (f 148 (x1).toNatClampNeg)) 147 (x1).toNatClampNeg)) 136 20 2) ca sa) : mm_go E Γ 4 41 [(0, mm_rf E 136), (1, .int x1), (2, .int x2)] [.int xk0] w f ca sa := by
  refine mm_istore_n (lv' := [(3, .int xk0), (0, mm_rf E 136), (1, .int x1), (2, .int x2)]) h d_MD_runEnds_41 rfl (by decide) rfl ?_
  refine mm_iload_n h d_MD_runEnds_42 0 rfl rfl ?_
  refine mm_if_eq h d_MD_runEnds_43 (tgt := 75) (by decide) (fun c1 => ?_) (fun c1 => ?_)
  · skip
    refine mm_sub [1, 2, 3, 0] rfl ?_
    exact (k0 c1)
  · skip
    refine mm_aload_n h d_MD_runEnds_46 1 rfl rfl ?_
    refine mm_getr h fl_MD_38 rfl (is_MO hw) (rf_MO_row hw) (is_Mrow hw).1.1 d_MD_runEnds_47 ?_
    refine mm_iconst (v := 0) h d_MD_runEnds_50 (by decide) ?_
    refine mm_aload_n h d_MD_runEnds_51 1 rfl rfl ?_
    refine mm_getr h fl_MD_44 rfl (is_MO hw) (rf_MO_latest hw) (is_Mlatest hw).1.1 d_MD_runEnds_52 ?_
    refine mm_iload_n h d_MD_runEnds_55 2 rfl rfl ?_
    refine mm_iald h (is_Mlatest hw) (b1 c1) d_MD_runEnds_56 ?_
    refine mm_iast h (is_Mrow hw) (by unfold vp_in; decide) d_MD_runEnds_57 ?_
    refine mm_aload_n h d_MD_runEnds_58 1 rfl rfl ?_
    refine mm_getr h fl_MD_38 rfl (is_MO hw) (rf_MO_row hw) (is_Mrow hw).1.1 d_MD_runEnds_59 ?_
    refine mm_iconst (v := 1) h d_MD_runEnds_62 (by decide) ?_
    refine mm_aload_n h d_MD_runEnds_63 1 rfl rfl ?_
    refine mm_getr h fl_MD_41 rfl (is_MO hw) (rf_MO_numbers hw) (is_Mnumbers hw).1.1 d_MD_runEnds_64 ?_
    refine mm_iload_n h d_MD_runEnds_67 2 rfl rfl ?_
    refine mm_iald h (is_Mnumbers hw) (b1 c1) d_MD_runEnds_68 ?_
    refine mm_iast h (is_Mrow hw) (by unfold vp_in; decide) d_MD_runEnds_69 ?_
    refine mm_aload_n h d_MD_runEnds_70 1 rfl rfl ?_
    refine mm_iconst (v := 2) h d_MD_runEnds_71 (by decide) ?_
    refine mm_puti h fl_MD_138 (Or.inl rfl) rfl rfl rfl (is_MO hw) d_MD_runEnds_72 ?_
    refine mm_sub [1, 2, 3, 0] rfl ?_
    exact (k2 c1)
theorem s_MD_runEnds_75 {E : mm_E} {Γ : mm_G} {lev kc ks ca sa : Nat} {w : mm_W} {f : mm_F} (h : mm_ok E Γ b_MD_runEnds 4 "PlannedTablesModel" lev kc ks) (hw : mm_sh w) {x1 : Int32} {x2 : Int32} {x3 : Int32} (b0 : vp_in x1 40) (k1 : (f 149 (x1).toNatClampNeg) = 0 → mm_go E Γ 4 104 [(0, mm_rf E 136), (1, .int x1), (2, .int x2), (3, .int x3)] [.int x1, mm_rf E 147] w f ca sa) (k2 : ¬ (f 149 (x1).toNatClampNeg) = 0 → ¬ x3 = 0 → mm_go E Γ 4 104 [(0, mm_rf E 136), (1, .int x1), (2, .int x2), (3, .int x3)] [.int x1, mm_rf E 147] w f ca sa) (k3 : ¬ (f 149 (x1).toNatClampNeg) = 0 → x3 = 0 → mm_go E Γ 4 105 [(0, mm_rf E 136), (1, .int x1), (2, .int x2), (3, .int x3)] [.int ((f 147 (x1).toNatClampNeg) + 1), .int x1, mm_rf E 147] w f ca sa) : mm_go E Γ 4 75 [(0, mm_rf E 136), (1, .int x1), (2, .int x2), (3, .int x3)] [] w f ca sa := by
  refine mm_aload_n h d_MD_runEnds_75 0 rfl rfl ?_
  refine mm_getr h fl_MD_41 rfl (is_MO hw) (rf_MO_numbers hw) (is_Mnumbers hw).1.1 d_MD_runEnds_76 ?_
  refine mm_iload_n h d_MD_runEnds_79 1 rfl rfl ?_
  refine mm_aload_n h d_MD_runEnds_80 0 rfl rfl ?_
  refine mm_getr h fl_MD_47 rfl (is_MO hw) (rf_MO_has hw) (is_Mhas hw).1.1 d_MD_runEnds_81 ?_
  refine mm_iload_n h d_MD_runEnds_84 1 rfl rfl ?_
  refine mm_zald h (is_Mhas hw) b0 d_MD_runEnds_85 ?_
  refine mm_if_eq h d_MD_runEnds_86 (tgt := 104) (by decide) (fun c1 => ?_) (fun c1 => ?_)
  · skip
    exact (k1 c1)
  · skip
    refine mm_iload_n h d_MD_runEnds_89 3 rfl rfl ?_
    refine mm_if_ne h d_MD_runEnds_90 (tgt := 104) (by decide) (fun c2 => ?_) (fun c2 => ?_)
    · skip
      exact (k2 c1 c2)
    · skip
      refine mm_aload_n h d_MD_runEnds_93 0 rfl rfl ?_
      refine mm_getr h fl_MD_41 rfl (is_MO hw) (rf_MO_numbers hw) (is_Mnumbers hw).1.1 d_MD_runEnds_94 ?_
      refine mm_iload_n h d_MD_runEnds_97 1 rfl rfl ?_
      refine mm_iald h (is_Mnumbers hw) b0 d_MD_runEnds_98 ?_
      refine mm_iconst (v := 1) h d_MD_runEnds_99 (by decide) ?_
      refine mm_iadd h d_MD_runEnds_100 ?_
      refine mm_goto h d_MD_runEnds_101 (tgt := 105) (by decide) ?_
      exact (k3 c1 c2)
theorem s_MD_runEnds_104 {E : mm_E} {Γ : mm_G} {lev kc ks ca sa : Nat} {w : mm_W} {f : mm_F} (h : mm_ok E Γ b_MD_runEnds 4 "PlannedTablesModel" lev kc ks) (hw : mm_sh w) {x1 : Int32} {x2 : Int32} {x3 : Int32} {xk1 : Int32} (k0 : mm_go E Γ 4 105 [(0, mm_rf E 136), (1, .int x1), (2, .int x2), (3, .int x3)] [.int 1, .int xk1, mm_rf E 147] w f ca sa) : mm_go E Γ 4 104 [(0, mm_rf E 136), (1, .int x1), (2, .int x2), (3, .int x3)] [.int xk1, mm_rf E 147] w f ca sa := by
  refine mm_iconst (v := 1) h d_MD_runEnds_104 (by decide) ?_
  exact k0
theorem s_MD_runEnds_105 {E : mm_E} {Γ : mm_G} {lev kc ks ca sa : Nat} {w : mm_W} {f : mm_F} {Post : Option Value → mm_W → mm_F → Prop} (h : mm_ok E Γ b_MD_runEnds 4 "PlannedTablesModel" lev kc ks) (he : mm_end E Γ (some .boolean) kc ks Post y_MD_runEnds.name) (hca : ca ≤ kc) (hsa : sa ≤ ks) (hw : mm_sh w) {x1 : Int32} {x2 : Int32} {x3 : Int32} {xk1 : Int32} {xk2 : Int32} (b0 : vp_in xk1 40) (b1 : vp_in x1 40) (k2 : Post (some (.int x3)) w (mm_up (mm_up (mm_up f 147 (xk1).toNatClampNeg xk2) 148 (x1).toNatClampNeg x2) 149 (x1).toNatClampNeg 1)) (n3 : narrow .boolean (.int x3) = .int x3) : mm_go E Γ 4 105 [(0, mm_rf E 136), (1, .int x1), (2, .int x2), (3, .int x3)] [.int xk2, .int xk1, mm_rf E 147] w f ca sa := by
  refine mm_iast h (is_Mnumbers hw) b0 d_MD_runEnds_105 ?_
  refine mm_aload_n h d_MD_runEnds_106 0 rfl rfl ?_
  refine mm_getr h fl_MD_44 rfl (is_MO hw) (rf_MO_latest hw) (is_Mlatest hw).1.1 d_MD_runEnds_107 ?_
  refine mm_iload_n h d_MD_runEnds_110 1 rfl rfl ?_
  refine mm_iload_n h d_MD_runEnds_111 2 rfl rfl ?_
  refine mm_iast h (is_Mlatest hw) b1 d_MD_runEnds_112 ?_
  refine mm_aload_n h d_MD_runEnds_113 0 rfl rfl ?_
  refine mm_getr h fl_MD_47 rfl (is_MO hw) (rf_MO_has hw) (is_Mhas hw).1.1 d_MD_runEnds_114 ?_
  refine mm_iload_n h d_MD_runEnds_117 1 rfl rfl ?_
  refine mm_iconst (v := 1) h d_MD_runEnds_118 (by decide) ?_
  refine mm_zast h rfl (is_Mhas hw) b1 d_MD_runEnds_119 ?_
  refine mm_iload_n h d_MD_runEnds_120 3 rfl rfl ?_
  exact mm_iret h he n3 d_MD_runEnds_121 hca hsa k2
theorem d_MD_goesOn_0 : decode b_MD_goesOn 0 = .ok (.aload_n 0, 1) := by decide +kernel
theorem d_MD_goesOn_1 : decode b_MD_goesOn 1 = .ok (.getfield 29, 3) := by decide +kernel
theorem d_MD_goesOn_4 : decode b_MD_goesOn 4 = .ok (.iload_n 1, 1) := by decide +kernel
theorem d_MD_goesOn_5 : decode b_MD_goesOn 5 = .ok (.iaload, 1) := by decide +kernel
theorem d_MD_goesOn_6 : decode b_MD_goesOn 6 = .ok (.tableswitch (234) (3) (9) #[(42), (88), (95), (108), (171), (187), (203)], 42) := by decide +kernel
theorem d_MD_goesOn_48 : decode b_MD_goesOn 48 = .ok (.aload_n 0, 1) := by decide +kernel
theorem d_MD_goesOn_49 : decode b_MD_goesOn 49 = .ok (.getfield 26, 3) := by decide +kernel
theorem d_MD_goesOn_52 : decode b_MD_goesOn 52 = .ok (.aload_n 0, 1) := by decide +kernel
theorem d_MD_goesOn_53 : decode b_MD_goesOn 53 = .ok (.getfield 32, 3) := by decide +kernel
theorem d_MD_goesOn_56 : decode b_MD_goesOn 56 = .ok (.iload_n 1, 1) := by decide +kernel
theorem d_MD_goesOn_57 : decode b_MD_goesOn 57 = .ok (.iaload, 1) := by decide +kernel
theorem d_MD_goesOn_58 : decode b_MD_goesOn 58 = .ok (.iconst (1), 1) := by decide +kernel
theorem d_MD_goesOn_59 : decode b_MD_goesOn 59 = .ok (.iadd, 1) := by decide +kernel
theorem d_MD_goesOn_60 : decode b_MD_goesOn 60 = .ok (.iaload, 1) := by decide +kernel
theorem d_MD_goesOn_61 : decode b_MD_goesOn 61 = .ok (.aload_n 0, 1) := by decide +kernel
theorem d_MD_goesOn_62 : decode b_MD_goesOn 62 = .ok (.getfield 38, 3) := by decide +kernel
theorem d_MD_goesOn_65 : decode b_MD_goesOn 65 = .ok (.aload_n 0, 1) := by decide +kernel
theorem d_MD_goesOn_66 : decode b_MD_goesOn 66 = .ok (.getfield 26, 3) := by decide +kernel
theorem d_MD_goesOn_69 : decode b_MD_goesOn 69 = .ok (.aload_n 0, 1) := by decide +kernel
theorem d_MD_goesOn_70 : decode b_MD_goesOn 70 = .ok (.getfield 32, 3) := by decide +kernel
theorem d_MD_goesOn_73 : decode b_MD_goesOn 73 = .ok (.iload_n 1, 1) := by decide +kernel
theorem d_MD_goesOn_74 : decode b_MD_goesOn 74 = .ok (.iaload, 1) := by decide +kernel
theorem d_MD_goesOn_75 : decode b_MD_goesOn 75 = .ok (.iaload, 1) := by decide +kernel
theorem d_MD_goesOn_76 : decode b_MD_goesOn 76 = .ok (.iaload, 1) := by decide +kernel
theorem d_MD_goesOn_77 : decode b_MD_goesOn 77 = .ok (.aload_n 0, 1) := by decide +kernel
theorem d_MD_goesOn_78 : decode b_MD_goesOn 78 = .ok (.getfield 26, 3) := by decide +kernel
theorem d_MD_goesOn_81 : decode b_MD_goesOn 81 = .ok (.aload_n 0, 1) := by decide +kernel
theorem d_MD_goesOn_82 : decode b_MD_goesOn 82 = .ok (.getfield 32, 3) := by decide +kernel
theorem d_MD_goesOn_85 : decode b_MD_goesOn 85 = .ok (.iload_n 1, 1) := by decide +kernel
theorem d_MD_goesOn_86 : decode b_MD_goesOn 86 = .ok (.iaload, 1) := by decide +kernel
theorem d_MD_goesOn_87 : decode b_MD_goesOn 87 = .ok (.iconst (2), 1) := by decide +kernel
theorem d_MD_goesOn_88 : decode b_MD_goesOn 88 = .ok (.iadd, 1) := by decide +kernel
theorem d_MD_goesOn_89 : decode b_MD_goesOn 89 = .ok (.iaload, 1) := by decide +kernel
theorem d_MD_goesOn_90 : decode b_MD_goesOn 90 = .ok (.invokestatic 141, 3) := by decide +kernel
theorem d_MD_goesOn_93 : decode b_MD_goesOn 93 = .ok (.ireturn, 1) := by decide +kernel
theorem d_MD_goesOn_94 : decode b_MD_goesOn 94 = .ok (.aload_n 0, 1) := by decide +kernel
theorem d_MD_goesOn_95 : decode b_MD_goesOn 95 = .ok (.iload_n 1, 1) := by decide +kernel
theorem d_MD_goesOn_96 : decode b_MD_goesOn 96 = .ok (.invokevirtual 145, 3) := by decide +kernel
theorem d_MD_goesOn_99 : decode b_MD_goesOn 99 = .ok (.iconst (1), 1) := by decide +kernel
theorem d_MD_goesOn_100 : decode b_MD_goesOn 100 = .ok (.ireturn, 1) := by decide +kernel
theorem d_MD_goesOn_101 : decode b_MD_goesOn 101 = .ok (.aload_n 0, 1) := by decide +kernel
theorem d_MD_goesOn_102 : decode b_MD_goesOn 102 = .ok (.iload_n 1, 1) := by decide +kernel
theorem d_MD_goesOn_103 : decode b_MD_goesOn 103 = .ok (.aload_n 0, 1) := by decide +kernel
theorem d_MD_goesOn_104 : decode b_MD_goesOn 104 = .ok (.getfield 35, 3) := by decide +kernel
theorem d_MD_goesOn_107 : decode b_MD_goesOn 107 = .ok (.iload_n 1, 1) := by decide +kernel
theorem d_MD_goesOn_108 : decode b_MD_goesOn 108 = .ok (.iaload, 1) := by decide +kernel
theorem d_MD_goesOn_109 : decode b_MD_goesOn 109 = .ok (.invokevirtual 149, 3) := by decide +kernel
theorem d_MD_goesOn_112 : decode b_MD_goesOn 112 = .ok (.iconst (0), 1) := by decide +kernel
theorem d_MD_goesOn_113 : decode b_MD_goesOn 113 = .ok (.ireturn, 1) := by decide +kernel
theorem d_MD_goesOn_114 : decode b_MD_goesOn 114 = .ok (.aload_n 0, 1) := by decide +kernel
theorem d_MD_goesOn_115 : decode b_MD_goesOn 115 = .ok (.getfield 41, 3) := by decide +kernel
theorem d_MD_goesOn_118 : decode b_MD_goesOn 118 = .ok (.iload_n 1, 1) := by decide +kernel
theorem d_MD_goesOn_119 : decode b_MD_goesOn 119 = .ok (.iaload, 1) := by decide +kernel
theorem d_MD_goesOn_120 : decode b_MD_goesOn 120 = .ok (.aload_n 0, 1) := by decide +kernel
theorem d_MD_goesOn_121 : decode b_MD_goesOn 121 = .ok (.getfield 26, 3) := by decide +kernel
theorem d_MD_goesOn_124 : decode b_MD_goesOn 124 = .ok (.aload_n 0, 1) := by decide +kernel
theorem d_MD_goesOn_125 : decode b_MD_goesOn 125 = .ok (.getfield 32, 3) := by decide +kernel
theorem d_MD_goesOn_128 : decode b_MD_goesOn 128 = .ok (.iload_n 1, 1) := by decide +kernel
theorem d_MD_goesOn_129 : decode b_MD_goesOn 129 = .ok (.iaload, 1) := by decide +kernel
theorem d_MD_goesOn_130 : decode b_MD_goesOn 130 = .ok (.iaload, 1) := by decide +kernel
theorem d_MD_goesOn_131 : decode b_MD_goesOn 131 = .ok (.if_icmp .ge (7), 3) := by decide +kernel
theorem d_MD_goesOn_134 : decode b_MD_goesOn 134 = .ok (.iconst (1), 1) := by decide +kernel
theorem d_MD_goesOn_135 : decode b_MD_goesOn 135 = .ok (.goto (4), 3) := by decide +kernel
theorem d_MD_goesOn_138 : decode b_MD_goesOn 138 = .ok (.iconst (0), 1) := by decide +kernel
theorem d_MD_goesOn_139 : decode b_MD_goesOn 139 = .ok (.istore_n 2, 1) := by decide +kernel
theorem d_MD_goesOn_140 : decode b_MD_goesOn 140 = .ok (.aload_n 0, 1) := by decide +kernel
theorem d_MD_goesOn_141 : decode b_MD_goesOn 141 = .ok (.getfield 41, 3) := by decide +kernel
theorem d_MD_goesOn_144 : decode b_MD_goesOn 144 = .ok (.iload_n 1, 1) := by decide +kernel
theorem d_MD_goesOn_145 : decode b_MD_goesOn 145 = .ok (.iload_n 2, 1) := by decide +kernel
theorem d_MD_goesOn_146 : decode b_MD_goesOn 146 = .ok (.ifCond .eq (14), 3) := by decide +kernel
theorem d_MD_goesOn_149 : decode b_MD_goesOn 149 = .ok (.aload_n 0, 1) := by decide +kernel
theorem d_MD_goesOn_150 : decode b_MD_goesOn 150 = .ok (.getfield 41, 3) := by decide +kernel
theorem d_MD_goesOn_153 : decode b_MD_goesOn 153 = .ok (.iload_n 1, 1) := by decide +kernel
theorem d_MD_goesOn_154 : decode b_MD_goesOn 154 = .ok (.iaload, 1) := by decide +kernel
theorem d_MD_goesOn_155 : decode b_MD_goesOn 155 = .ok (.iconst (1), 1) := by decide +kernel
theorem d_MD_goesOn_156 : decode b_MD_goesOn 156 = .ok (.iadd, 1) := by decide +kernel
theorem d_MD_goesOn_157 : decode b_MD_goesOn 157 = .ok (.goto (9), 3) := by decide +kernel
theorem d_MD_goesOn_160 : decode b_MD_goesOn 160 = .ok (.aload_n 0, 1) := by decide +kernel
theorem d_MD_goesOn_161 : decode b_MD_goesOn 161 = .ok (.getfield 41, 3) := by decide +kernel
theorem d_MD_goesOn_164 : decode b_MD_goesOn 164 = .ok (.iload_n 1, 1) := by decide +kernel
theorem d_MD_goesOn_165 : decode b_MD_goesOn 165 = .ok (.iaload, 1) := by decide +kernel
theorem d_MD_goesOn_166 : decode b_MD_goesOn 166 = .ok (.iastore, 1) := by decide +kernel
theorem d_MD_goesOn_167 : decode b_MD_goesOn 167 = .ok (.iload_n 2, 1) := by decide +kernel
theorem d_MD_goesOn_168 : decode b_MD_goesOn 168 = .ok (.ifCond .ne (7), 3) := by decide +kernel
theorem d_MD_goesOn_171 : decode b_MD_goesOn 171 = .ok (.iconst (1), 1) := by decide +kernel
theorem d_MD_goesOn_172 : decode b_MD_goesOn 172 = .ok (.goto (4), 3) := by decide +kernel
theorem d_MD_goesOn_175 : decode b_MD_goesOn 175 = .ok (.iconst (0), 1) := by decide +kernel
theorem d_MD_goesOn_176 : decode b_MD_goesOn 176 = .ok (.ireturn, 1) := by decide +kernel
theorem d_MD_goesOn_177 : decode b_MD_goesOn 177 = .ok (.aload_n 0, 1) := by decide +kernel
theorem d_MD_goesOn_178 : decode b_MD_goesOn 178 = .ok (.getfield 41, 3) := by decide +kernel
theorem d_MD_goesOn_181 : decode b_MD_goesOn 181 = .ok (.iload_n 1, 1) := by decide +kernel
theorem d_MD_goesOn_182 : decode b_MD_goesOn 182 = .ok (.aload_n 0, 1) := by decide +kernel
theorem d_MD_goesOn_183 : decode b_MD_goesOn 183 = .ok (.getfield 41, 3) := by decide +kernel
theorem d_MD_goesOn_186 : decode b_MD_goesOn 186 = .ok (.iload_n 1, 1) := by decide +kernel
theorem d_MD_goesOn_187 : decode b_MD_goesOn 187 = .ok (.iaload, 1) := by decide +kernel
theorem d_MD_goesOn_188 : decode b_MD_goesOn 188 = .ok (.iconst (1), 1) := by decide +kernel
theorem d_MD_goesOn_189 : decode b_MD_goesOn 189 = .ok (.iadd, 1) := by decide +kernel
theorem d_MD_goesOn_190 : decode b_MD_goesOn 190 = .ok (.iastore, 1) := by decide +kernel
theorem d_MD_goesOn_191 : decode b_MD_goesOn 191 = .ok (.iconst (1), 1) := by decide +kernel
theorem d_MD_goesOn_192 : decode b_MD_goesOn 192 = .ok (.ireturn, 1) := by decide +kernel
theorem d_MD_goesOn_193 : decode b_MD_goesOn 193 = .ok (.aload_n 0, 1) := by decide +kernel
theorem d_MD_goesOn_194 : decode b_MD_goesOn 194 = .ok (.getfield 41, 3) := by decide +kernel
theorem d_MD_goesOn_197 : decode b_MD_goesOn 197 = .ok (.iload_n 1, 1) := by decide +kernel
theorem d_MD_goesOn_198 : decode b_MD_goesOn 198 = .ok (.aload_n 0, 1) := by decide +kernel
theorem d_MD_goesOn_199 : decode b_MD_goesOn 199 = .ok (.getfield 41, 3) := by decide +kernel
theorem d_MD_goesOn_202 : decode b_MD_goesOn 202 = .ok (.iload_n 1, 1) := by decide +kernel
theorem d_MD_goesOn_203 : decode b_MD_goesOn 203 = .ok (.iaload, 1) := by decide +kernel
theorem d_MD_goesOn_204 : decode b_MD_goesOn 204 = .ok (.iconst (1), 1) := by decide +kernel
theorem d_MD_goesOn_205 : decode b_MD_goesOn 205 = .ok (.iadd, 1) := by decide +kernel
theorem d_MD_goesOn_206 : decode b_MD_goesOn 206 = .ok (.iastore, 1) := by decide +kernel
theorem d_MD_goesOn_207 : decode b_MD_goesOn 207 = .ok (.iconst (0), 1) := by decide +kernel
theorem d_MD_goesOn_208 : decode b_MD_goesOn 208 = .ok (.ireturn, 1) := by decide +kernel
theorem d_MD_goesOn_209 : decode b_MD_goesOn 209 = .ok (.aload_n 0, 1) := by decide +kernel
theorem d_MD_goesOn_210 : decode b_MD_goesOn 210 = .ok (.getfield 41, 3) := by decide +kernel
theorem d_MD_goesOn_213 : decode b_MD_goesOn 213 = .ok (.iload_n 1, 1) := by decide +kernel
theorem d_MD_goesOn_214 : decode b_MD_goesOn 214 = .ok (.aload_n 0, 1) := by decide +kernel
theorem d_MD_goesOn_215 : decode b_MD_goesOn 215 = .ok (.getfield 41, 3) := by decide +kernel
theorem d_MD_goesOn_218 : decode b_MD_goesOn 218 = .ok (.iload_n 1, 1) := by decide +kernel
theorem d_MD_goesOn_219 : decode b_MD_goesOn 219 = .ok (.iaload, 1) := by decide +kernel
theorem d_MD_goesOn_220 : decode b_MD_goesOn 220 = .ok (.aload_n 0, 1) := by decide +kernel
theorem d_MD_goesOn_221 : decode b_MD_goesOn 221 = .ok (.getfield 38, 3) := by decide +kernel
theorem d_MD_goesOn_224 : decode b_MD_goesOn 224 = .ok (.aload_n 0, 1) := by decide +kernel
theorem d_MD_goesOn_225 : decode b_MD_goesOn 225 = .ok (.getfield 26, 3) := by decide +kernel
theorem d_MD_goesOn_228 : decode b_MD_goesOn 228 = .ok (.aload_n 0, 1) := by decide +kernel
theorem d_MD_goesOn_229 : decode b_MD_goesOn 229 = .ok (.getfield 32, 3) := by decide +kernel
theorem d_MD_goesOn_232 : decode b_MD_goesOn 232 = .ok (.iload_n 1, 1) := by decide +kernel
theorem d_MD_goesOn_233 : decode b_MD_goesOn 233 = .ok (.iaload, 1) := by decide +kernel
theorem d_MD_goesOn_234 : decode b_MD_goesOn 234 = .ok (.iaload, 1) := by decide +kernel
theorem d_MD_goesOn_235 : decode b_MD_goesOn 235 = .ok (.iaload, 1) := by decide +kernel
theorem d_MD_goesOn_236 : decode b_MD_goesOn 236 = .ok (.iadd, 1) := by decide +kernel
theorem d_MD_goesOn_237 : decode b_MD_goesOn 237 = .ok (.iastore, 1) := by decide +kernel
theorem d_MD_goesOn_238 : decode b_MD_goesOn 238 = .ok (.iconst (0), 1) := by decide +kernel
theorem d_MD_goesOn_239 : decode b_MD_goesOn 239 = .ok (.ireturn, 1) := by decide +kernel
theorem d_MD_goesOn_240 : decode b_MD_goesOn 240 = .ok (.aload_n 0, 1) := by decide +kernel
theorem d_MD_goesOn_241 : decode b_MD_goesOn 241 = .ok (.iload_n 1, 1) := by decide +kernel
theorem d_MD_goesOn_242 : decode b_MD_goesOn 242 = .ok (.invokevirtual 153, 3) := by decide +kernel
theorem d_MD_goesOn_245 : decode b_MD_goesOn 245 = .ok (.ireturn, 1) := by decide +kernel
theorem s_MD_goesOn_0 {E : mm_E} {Γ : mm_G} {lev kc ks ca sa : Nat} {w : mm_W} {f : mm_F} (h : mm_ok E Γ b_MD_goesOn 3 "PlannedTablesModel" lev kc ks) (hw : mm_sh w) {x1 : Int32} (b0 : vp_in x1 40) (k1 : (f 143 (x1).toNatClampNeg) = 3 → mm_go E Γ 3 48 [(0, mm_rf E 136), (1, .int x1)] [] w f ca sa) (k2 : ¬ (f 143 (x1).toNatClampNeg) = 3 → (f 143 (x1).toNatClampNeg) = 4 → mm_go E Γ 3 94 [(0, mm_rf E 136), (1, .int x1)] [] w f ca sa) (k3 : ¬ (f 143 (x1).toNatClampNeg) = 3 → ¬ (f 143 (x1).toNatClampNeg) = 4 → (f 143 (x1).toNatClampNeg) = 5 → mm_go E Γ 3 101 [(0, mm_rf E 136), (1, .int x1)] [] w f ca sa) (k4 : ¬ (f 143 (x1).toNatClampNeg) = 3 → ¬ (f 143 (x1).toNatClampNeg) = 4 → ¬ (f 143 (x1).toNatClampNeg) = 5 → (f 143 (x1).toNatClampNeg) = 6 → mm_go E Γ 3 114 [(0, mm_rf E 136), (1, .int x1)] [] w f ca sa) (k5 : ¬ (f 143 (x1).toNatClampNeg) = 3 → ¬ (f 143 (x1).toNatClampNeg) = 4 → ¬ (f 143 (x1).toNatClampNeg) = 5 → ¬ (f 143 (x1).toNatClampNeg) = 6 → (f 143 (x1).toNatClampNeg) = 7 → mm_go E Γ 3 177 [(0, mm_rf E 136), (1, .int x1)] [] w f ca sa) (k6 : ¬ (f 143 (x1).toNatClampNeg) = 3 → ¬ (f 143 (x1).toNatClampNeg) = 4 → ¬ (f 143 (x1).toNatClampNeg) = 5 → ¬ (f 143 (x1).toNatClampNeg) = 6 → ¬ (f 143 (x1).toNatClampNeg) = 7 → (f 143 (x1).toNatClampNeg) = 8 → mm_go E Γ 3 193 [(0, mm_rf E 136), (1, .int x1)] [] w f ca sa) (k7 : ¬ (f 143 (x1).toNatClampNeg) = 3 → ¬ (f 143 (x1).toNatClampNeg) = 4 → ¬ (f 143 (x1).toNatClampNeg) = 5 → ¬ (f 143 (x1).toNatClampNeg) = 6 → ¬ (f 143 (x1).toNatClampNeg) = 7 → ¬ (f 143 (x1).toNatClampNeg) = 8 → (f 143 (x1).toNatClampNeg) = 9 → mm_go E Γ 3 209 [(0, mm_rf E 136), (1, .int x1)] [] w f ca sa) (k8 : ¬ (f 143 (x1).toNatClampNeg) = 3 → ¬ (f 143 (x1).toNatClampNeg) = 4 → ¬ (f 143 (x1).toNatClampNeg) = 5 → ¬ (f 143 (x1).toNatClampNeg) = 6 → ¬ (f 143 (x1).toNatClampNeg) = 7 → ¬ (f 143 (x1).toNatClampNeg) = 8 → ¬ (f 143 (x1).toNatClampNeg) = 9 → mm_go E Γ 3 240 [(0, mm_rf E 136), (1, .int x1)] [] w f ca sa) : mm_go E Γ 3 0 [(0, mm_rf E 136), (1, .int x1)] [] w f ca sa := by
  refine mm_aload_n h d_MD_goesOn_0 0 rfl rfl ?_
  refine mm_getr h fl_MD_29 rfl (is_MO hw) (rf_MO_ops hw) (is_Mops hw).1.1 d_MD_goesOn_1 ?_
  refine mm_iload_n h d_MD_goesOn_4 1 rfl rfl ?_
  refine mm_iald h (is_Mops hw) b0 d_MD_goesOn_5 ?_
  by_cases c1 : (f 143 (x1).toNatClampNeg) = 3
  · refine mm_tin h d_MD_goesOn_6 (by rw [c1]; decide) (by rw [c1]; decide) (off := 42) (by rw [c1]; rfl) (tgt := 48) (by decide) ?_
    exact (k1 c1)
  by_cases c2 : (f 143 (x1).toNatClampNeg) = 4
  · refine mm_tin h d_MD_goesOn_6 (by rw [c2]; decide) (by rw [c2]; decide) (off := 88) (by rw [c2]; rfl) (tgt := 94) (by decide) ?_
    exact (k2 c1 c2)
  by_cases c3 : (f 143 (x1).toNatClampNeg) = 5
  · refine mm_tin h d_MD_goesOn_6 (by rw [c3]; decide) (by rw [c3]; decide) (off := 95) (by rw [c3]; rfl) (tgt := 101) (by decide) ?_
    exact (k3 c1 c2 c3)
  by_cases c4 : (f 143 (x1).toNatClampNeg) = 6
  · refine mm_tin h d_MD_goesOn_6 (by rw [c4]; decide) (by rw [c4]; decide) (off := 108) (by rw [c4]; rfl) (tgt := 114) (by decide) ?_
    exact (k4 c1 c2 c3 c4)
  by_cases c5 : (f 143 (x1).toNatClampNeg) = 7
  · refine mm_tin h d_MD_goesOn_6 (by rw [c5]; decide) (by rw [c5]; decide) (off := 171) (by rw [c5]; rfl) (tgt := 177) (by decide) ?_
    exact (k5 c1 c2 c3 c4 c5)
  by_cases c6 : (f 143 (x1).toNatClampNeg) = 8
  · refine mm_tin h d_MD_goesOn_6 (by rw [c6]; decide) (by rw [c6]; decide) (off := 187) (by rw [c6]; rfl) (tgt := 193) (by decide) ?_
    exact (k6 c1 c2 c3 c4 c5 c6)
  by_cases c7 : (f 143 (x1).toNatClampNeg) = 9
  · refine mm_tin h d_MD_goesOn_6 (by rw [c7]; decide) (by rw [c7]; decide) (off := 203) (by rw [c7]; rfl) (tgt := 209) (by decide) ?_
    exact (k7 c1 c2 c3 c4 c5 c6 c7)
  refine mm_tout h d_MD_goesOn_6 (by have q0 := mm_ne 3 3 (by decide) c1; have q1 := mm_ne 4 4 (by decide) c2; have q2 := mm_ne 5 5 (by decide) c3; have q3 := mm_ne 6 6 (by decide) c4; have q4 := mm_ne 7 7 (by decide) c5; have q5 := mm_ne 8 8 (by decide) c6; have q6 := mm_ne 9 9 (by decide) c7; omega) (tgt := 240) (by decide) ?_
  exact (k8 c1 c2 c3 c4 c5 c6 c7)
theorem s_MD_goesOn_48 {E : mm_E} {Γ : mm_G} {lev kc ks ca sa : Nat} {w : mm_W} {f : mm_F} (h : mm_ok E Γ b_MD_goesOn 3 "PlannedTablesModel" lev kc ks) (hw : mm_sh w) {x1 : Int32} (b0 : vp_in x1 40) (b1 : vp_in ((f 144 (x1).toNatClampNeg) + 1) 40) (b2 : vp_in (f 144 (x1).toNatClampNeg) 40) (b3 : vp_in (f 142 ((f 144 (x1).toNatClampNeg)).toNatClampNeg) 8) (b4 : vp_in ((f 144 (x1).toNatClampNeg) + 2) 40) {vl0 vc0 vs0 : Nat} {P0 : Option Value → mm_W → mm_F → Prop} (hl0 : vl0 < lev) (hu0 : ca + vc0 ≤ kc) (hz0 : sa + vs0 ≤ ks) (m5 : mm_C E y_MD_passes b_MD_passes 3 (some .boolean) vl0 vc0 vs0 [.int (f 142 (((f 144 (x1).toNatClampNeg) + 1)).toNatClampNeg), .int (f 146 ((f 142 ((f 144 (x1).toNatClampNeg)).toNatClampNeg)).toNatClampNeg), .int (f 142 (((f 144 (x1).toNatClampNeg) + 2)).toNatClampNeg)] w f P0) (k6 : ∀ (r : Option Value) (w1 : mm_W) (f1 : mm_F), P0 r w1 f1 → mm_go E Γ 3 93 [(0, mm_rf E 136), (1, .int x1)] (r.toList ++ []) w1 f1 (ca + vc0) (sa + vs0)) : mm_go E Γ 3 48 [(0, mm_rf E 136), (1, .int x1)] [] w f ca sa := by
  refine mm_aload_n h d_MD_goesOn_48 0 rfl rfl ?_
  refine mm_getr h fl_MD_26 rfl (is_MO hw) (rf_MO_plan hw) (is_Mplan hw).1.1 d_MD_goesOn_49 ?_
  refine mm_aload_n h d_MD_goesOn_52 0 rfl rfl ?_
  refine mm_getr h fl_MD_32 rfl (is_MO hw) (rf_MO_at hw) (is_Mat hw).1.1 d_MD_goesOn_53 ?_
  refine mm_iload_n h d_MD_goesOn_56 1 rfl rfl ?_
  refine mm_iald h (is_Mat hw) b0 d_MD_goesOn_57 ?_
  refine mm_iconst (v := 1) h d_MD_goesOn_58 (by decide) ?_
  refine mm_iadd h d_MD_goesOn_59 ?_
  refine mm_iald h (is_Mplan hw) b1 d_MD_goesOn_60 ?_
  refine mm_aload_n h d_MD_goesOn_61 0 rfl rfl ?_
  refine mm_getr h fl_MD_38 rfl (is_MO hw) (rf_MO_row hw) (is_Mrow hw).1.1 d_MD_goesOn_62 ?_
  refine mm_aload_n h d_MD_goesOn_65 0 rfl rfl ?_
  refine mm_getr h fl_MD_26 rfl (is_MO hw) (rf_MO_plan hw) (is_Mplan hw).1.1 d_MD_goesOn_66 ?_
  refine mm_aload_n h d_MD_goesOn_69 0 rfl rfl ?_
  refine mm_getr h fl_MD_32 rfl (is_MO hw) (rf_MO_at hw) (is_Mat hw).1.1 d_MD_goesOn_70 ?_
  refine mm_iload_n h d_MD_goesOn_73 1 rfl rfl ?_
  refine mm_iald h (is_Mat hw) b0 d_MD_goesOn_74 ?_
  refine mm_iald h (is_Mplan hw) b2 d_MD_goesOn_75 ?_
  refine mm_iald h (is_Mrow hw) b3 d_MD_goesOn_76 ?_
  refine mm_aload_n h d_MD_goesOn_77 0 rfl rfl ?_
  refine mm_getr h fl_MD_26 rfl (is_MO hw) (rf_MO_plan hw) (is_Mplan hw).1.1 d_MD_goesOn_78 ?_
  refine mm_aload_n h d_MD_goesOn_81 0 rfl rfl ?_
  refine mm_getr h fl_MD_32 rfl (is_MO hw) (rf_MO_at hw) (is_Mat hw).1.1 d_MD_goesOn_82 ?_
  refine mm_iload_n h d_MD_goesOn_85 1 rfl rfl ?_
  refine mm_iald h (is_Mat hw) b0 d_MD_goesOn_86 ?_
  refine mm_iconst (v := 2) h d_MD_goesOn_87 (by decide) ?_
  refine mm_iadd h d_MD_goesOn_88 ?_
  refine mm_iald h (is_Mplan hw) b4 d_MD_goesOn_89 ?_
  exact mm_callS (As := [.int (f 142 (((f 144 (x1).toNatClampNeg) + 1)).toNatClampNeg), .int (f 146 ((f 142 ((f 144 (x1).toNatClampNeg)).toNatClampNeg)).toNatClampNeg), .int (f 142 (((f 144 (x1).toNatClampNeg) + 2)).toNatClampNeg)]) (rest := []) h m5 cs_MD_141 ct_MD_passes cm_MD_passes hl0 hu0 hz0 rfl rfl (Nat.le_of_ble_eq_true rfl) d_MD_goesOn_90 (fun r w1 f1 hp => k6 r w1 f1 hp)
theorem s_MD_goesOn_93 {E : mm_E} {Γ : mm_G} {lev kc ks ca sa : Nat} {w : mm_W} {f : mm_F} {Post : Option Value → mm_W → mm_F → Prop} (h : mm_ok E Γ b_MD_goesOn 3 "PlannedTablesModel" lev kc ks) (he : mm_end E Γ (some .boolean) kc ks Post y_MD_goesOn.name) (hca : ca ≤ kc) (hsa : sa ≤ ks) (hw : mm_sh w) {x1 : Int32} {xk0 : Int32} (k0 : Post (some (.int xk0)) w f) (n1 : narrow .boolean (.int xk0) = .int xk0) : mm_go E Γ 3 93 [(0, mm_rf E 136), (1, .int x1)] [.int xk0] w f ca sa := by
  exact mm_iret h he n1 d_MD_goesOn_93 hca hsa k0
theorem s_MD_goesOn_94 {E : mm_E} {Γ : mm_G} {lev kc ks ca sa : Nat} {w : mm_W} {f : mm_F} (h : mm_ok E Γ b_MD_goesOn 3 "PlannedTablesModel" lev kc ks) (hw : mm_sh w) {x1 : Int32} {vl0 vc0 vs0 : Nat} {P0 : Option Value → mm_W → mm_F → Prop} (hl0 : vl0 < lev) (hu0 : ca + vc0 ≤ kc) (hz0 : sa + vs0 ≤ ks) (m0 : mm_C E y_MD_choose b_MD_choose 4 none vl0 vc0 vs0 [mm_rf E 136, .int x1] w f P0) (k1 : ∀ (r : Option Value) (w1 : mm_W) (f1 : mm_F), P0 r w1 f1 → mm_go E Γ 3 99 [(0, mm_rf E 136), (1, .int x1)] (r.toList ++ []) w1 f1 (ca + vc0) (sa + vs0)) : mm_go E Γ 3 94 [(0, mm_rf E 136), (1, .int x1)] [] w f ca sa := by
  refine mm_aload_n h d_MD_goesOn_94 0 rfl rfl ?_
  refine mm_iload_n h d_MD_goesOn_95 1 rfl rfl ?_
  exact mm_callV (As := [.int x1]) (rest := []) h m0 cv_MD_145 cm_MD_choose hl0 (q0 := _) rfl rfl (is_MO hw) hu0 hz0 rfl rfl (Nat.le_of_ble_eq_true rfl) d_MD_goesOn_96 (fun r w1 f1 hp => k1 r w1 f1 hp)
theorem s_MD_goesOn_99 {E : mm_E} {Γ : mm_G} {lev kc ks ca sa : Nat} {w : mm_W} {f : mm_F} {Post : Option Value → mm_W → mm_F → Prop} (h : mm_ok E Γ b_MD_goesOn 3 "PlannedTablesModel" lev kc ks) (he : mm_end E Γ (some .boolean) kc ks Post y_MD_goesOn.name) (hca : ca ≤ kc) (hsa : sa ≤ ks) (hw : mm_sh w) {x1 : Int32} (k0 : Post (some (.int 1)) w f) : mm_go E Γ 3 99 [(0, mm_rf E 136), (1, .int x1)] [] w f ca sa := by
  refine mm_iconst (v := 1) h d_MD_goesOn_99 (by decide) ?_
  exact mm_iret h he rfl d_MD_goesOn_100 hca hsa k0
theorem s_MD_goesOn_101 {E : mm_E} {Γ : mm_G} {lev kc ks ca sa : Nat} {w : mm_W} {f : mm_F} (h : mm_ok E Γ b_MD_goesOn 3 "PlannedTablesModel" lev kc ks) (hw : mm_sh w) {x1 : Int32} (b0 : vp_in x1 40) {vl0 vc0 vs0 : Nat} {P0 : Option Value → mm_W → mm_F → Prop} (hl0 : vl0 < lev) (hu0 : ca + vc0 ≤ kc) (hz0 : sa + vs0 ≤ ks) (m1 : mm_C E y_MD_hold b_MD_hold 4 none vl0 vc0 vs0 [mm_rf E 136, .int x1, .int (f 145 (x1).toNatClampNeg)] w f P0) (k2 : ∀ (r : Option Value) (w1 : mm_W) (f1 : mm_F), P0 r w1 f1 → mm_go E Γ 3 112 [(0, mm_rf E 136), (1, .int x1)] (r.toList ++ []) w1 f1 (ca + vc0) (sa + vs0)) : mm_go E Γ 3 101 [(0, mm_rf E 136), (1, .int x1)] [] w f ca sa := by
  refine mm_aload_n h d_MD_goesOn_101 0 rfl rfl ?_
  refine mm_iload_n h d_MD_goesOn_102 1 rfl rfl ?_
  refine mm_aload_n h d_MD_goesOn_103 0 rfl rfl ?_
  refine mm_getr h fl_MD_35 rfl (is_MO hw) (rf_MO_wide hw) (is_Mwide hw).1.1 d_MD_goesOn_104 ?_
  refine mm_iload_n h d_MD_goesOn_107 1 rfl rfl ?_
  refine mm_iald h (is_Mwide hw) b0 d_MD_goesOn_108 ?_
  exact mm_callV (As := [.int x1, .int (f 145 (x1).toNatClampNeg)]) (rest := []) h m1 cv_MD_149 cm_MD_hold hl0 (q0 := _) rfl rfl (is_MO hw) hu0 hz0 rfl rfl (Nat.le_of_ble_eq_true rfl) d_MD_goesOn_109 (fun r w1 f1 hp => k2 r w1 f1 hp)
theorem s_MD_goesOn_112 {E : mm_E} {Γ : mm_G} {lev kc ks ca sa : Nat} {w : mm_W} {f : mm_F} {Post : Option Value → mm_W → mm_F → Prop} (h : mm_ok E Γ b_MD_goesOn 3 "PlannedTablesModel" lev kc ks) (he : mm_end E Γ (some .boolean) kc ks Post y_MD_goesOn.name) (hca : ca ≤ kc) (hsa : sa ≤ ks) (hw : mm_sh w) {x1 : Int32} (k0 : Post (some (.int 0)) w f) : mm_go E Γ 3 112 [(0, mm_rf E 136), (1, .int x1)] [] w f ca sa := by
  refine mm_iconst (v := 0) h d_MD_goesOn_112 (by decide) ?_
  exact mm_iret h he rfl d_MD_goesOn_113 hca hsa k0
theorem s_MD_goesOn_114 {E : mm_E} {Γ : mm_G} {lev kc ks ca sa : Nat} {w : mm_W} {f : mm_F} (h : mm_ok E Γ b_MD_goesOn 3 "PlannedTablesModel" lev kc ks) (hw : mm_sh w) {x1 : Int32} (b0 : vp_in x1 40) (b1 : vp_in (f 144 (x1).toNatClampNeg) 40) (k2 : (f 142 ((f 144 (x1).toNatClampNeg)).toNatClampNeg) ≤ (f 147 (x1).toNatClampNeg) → mm_go E Γ 3 139 [(0, mm_rf E 136), (1, .int x1)] [.int 0] w f ca sa) (k3 : ¬ (f 142 ((f 144 (x1).toNatClampNeg)).toNatClampNeg) ≤ (f 147 (x1).toNatClampNeg) → mm_go E Γ 3 139 [(0, mm_rf E 136), (1, .int x1)] [.int 1] w f ca sa) : mm_go E Γ 3 114 [(0, mm_rf E 136), (1, .int x1)] [] w f ca sa := by
  refine mm_aload_n h d_MD_goesOn_114 0 rfl rfl ?_
  refine mm_getr h fl_MD_41 rfl (is_MO hw) (rf_MO_numbers hw) (is_Mnumbers hw).1.1 d_MD_goesOn_115 ?_
  refine mm_iload_n h d_MD_goesOn_118 1 rfl rfl ?_
  refine mm_iald h (is_Mnumbers hw) b0 d_MD_goesOn_119 ?_
  refine mm_aload_n h d_MD_goesOn_120 0 rfl rfl ?_
  refine mm_getr h fl_MD_26 rfl (is_MO hw) (rf_MO_plan hw) (is_Mplan hw).1.1 d_MD_goesOn_121 ?_
  refine mm_aload_n h d_MD_goesOn_124 0 rfl rfl ?_
  refine mm_getr h fl_MD_32 rfl (is_MO hw) (rf_MO_at hw) (is_Mat hw).1.1 d_MD_goesOn_125 ?_
  refine mm_iload_n h d_MD_goesOn_128 1 rfl rfl ?_
  refine mm_iald h (is_Mat hw) b0 d_MD_goesOn_129 ?_
  refine mm_iald h (is_Mplan hw) b1 d_MD_goesOn_130 ?_
  refine mm_icmp_ge h d_MD_goesOn_131 (tgt := 138) (by decide) (fun c1 => ?_) (fun c1 => ?_)
  · skip
    refine mm_iconst (v := 0) h d_MD_goesOn_138 (by decide) ?_
    exact (k2 c1)
  · skip
    refine mm_iconst (v := 1) h d_MD_goesOn_134 (by decide) ?_
    refine mm_goto h d_MD_goesOn_135 (tgt := 139) (by decide) ?_
    exact (k3 c1)
theorem s_MD_goesOn_139 {E : mm_E} {Γ : mm_G} {lev kc ks ca sa : Nat} {w : mm_W} {f : mm_F} (h : mm_ok E Γ b_MD_goesOn 3 "PlannedTablesModel" lev kc ks) (hw : mm_sh w) {x1 : Int32} {xk0 : Int32} (b0 : xk0 = 0 → vp_in x1 40) (k1 : xk0 = 0 → mm_go E Γ 3 166 [(0, mm_rf E 136), (1, .int x1), (2, .int xk0)] [.int (f 147 (x1).toNatClampNeg), .int x1, mm_rf E 147] w f ca sa) (b2 : ¬ xk0 = 0 → vp_in x1 40) (k3 : ¬ xk0 = 0 → mm_go E Γ 3 166 [(0, mm_rf E 136), (1, .int x1), (2, .int xk0)] [.int ((f 147 (x1).toNatClampNeg) + 1), .int x1, mm_rf E 147] w f ca sa) : mm_go E Γ 3 139 [(0, mm_rf E 136), (1, .int x1)] [.int xk0] w f ca sa := by
  refine mm_istore_n (lv' := [(2, .int xk0), (0, mm_rf E 136), (1, .int x1)]) h d_MD_goesOn_139 rfl (by decide) rfl ?_
  refine mm_aload_n h d_MD_goesOn_140 1 rfl rfl ?_
  refine mm_getr h fl_MD_41 rfl (is_MO hw) (rf_MO_numbers hw) (is_Mnumbers hw).1.1 d_MD_goesOn_141 ?_
  refine mm_iload_n h d_MD_goesOn_144 2 rfl rfl ?_
  refine mm_iload_n h d_MD_goesOn_145 0 rfl rfl ?_
  refine mm_if_eq h d_MD_goesOn_146 (tgt := 160) (by decide) (fun c1 => ?_) (fun c1 => ?_)
  · skip
    refine mm_aload_n h d_MD_goesOn_160 1 rfl rfl ?_
    refine mm_getr h fl_MD_41 rfl (is_MO hw) (rf_MO_numbers hw) (is_Mnumbers hw).1.1 d_MD_goesOn_161 ?_
    refine mm_iload_n h d_MD_goesOn_164 2 rfl rfl ?_
    refine mm_iald h (is_Mnumbers hw) (b0 c1) d_MD_goesOn_165 ?_
    refine mm_sub [1, 2, 0] rfl ?_
    exact (k1 c1)
  · skip
    refine mm_aload_n h d_MD_goesOn_149 1 rfl rfl ?_
    refine mm_getr h fl_MD_41 rfl (is_MO hw) (rf_MO_numbers hw) (is_Mnumbers hw).1.1 d_MD_goesOn_150 ?_
    refine mm_iload_n h d_MD_goesOn_153 2 rfl rfl ?_
    refine mm_iald h (is_Mnumbers hw) (b2 c1) d_MD_goesOn_154 ?_
    refine mm_iconst (v := 1) h d_MD_goesOn_155 (by decide) ?_
    refine mm_iadd h d_MD_goesOn_156 ?_
    refine mm_goto h d_MD_goesOn_157 (tgt := 166) (by decide) ?_
    refine mm_sub [1, 2, 0] rfl ?_
    exact (k3 c1)
theorem s_MD_goesOn_166 {E : mm_E} {Γ : mm_G} {lev kc ks ca sa : Nat} {w : mm_W} {f : mm_F} (h : mm_ok E Γ b_MD_goesOn 3 "PlannedTablesModel" lev kc ks) (hw : mm_sh w) {x1 : Int32} {x2 : Int32} {xk1 : Int32} {xk2 : Int32} (b0 : vp_in xk1 40) (k1 : ¬ x2 = 0 → mm_go E Γ 3 176 [(0, mm_rf E 136), (1, .int x1), (2, .int x2)] [.int 0] w (mm_up f 147 (xk1).toNatClampNeg xk2) ca sa) (k2 : x2 = 0 → mm_go E Γ 3 176 [(0, mm_rf E 136), (1, .int x1), (2, .int x2)] [.int 1] w (mm_up f 147 (xk1).toNatClampNeg xk2) ca sa) : mm_go E Γ 3 166 [(0, mm_rf E 136), (1, .int x1), (2, .int x2)] [.int xk2, .int xk1, mm_rf E 147] w f ca sa := by
  refine mm_iast h (is_Mnumbers hw) b0 d_MD_goesOn_166 ?_
  refine mm_iload_n h d_MD_goesOn_167 2 rfl rfl ?_
  refine mm_if_ne h d_MD_goesOn_168 (tgt := 175) (by decide) (fun c1 => ?_) (fun c1 => ?_)
  · skip
    refine mm_iconst (v := 0) h d_MD_goesOn_175 (by decide) ?_
    exact (k1 c1)
  · skip
    refine mm_iconst (v := 1) h d_MD_goesOn_171 (by decide) ?_
    refine mm_goto h d_MD_goesOn_172 (tgt := 176) (by decide) ?_
    exact (k2 c1)
theorem s_MD_goesOn_176 {E : mm_E} {Γ : mm_G} {lev kc ks ca sa : Nat} {w : mm_W} {f : mm_F} {Post : Option Value → mm_W → mm_F → Prop} (h : mm_ok E Γ b_MD_goesOn 3 "PlannedTablesModel" lev kc ks) (he : mm_end E Γ (some .boolean) kc ks Post y_MD_goesOn.name) (hca : ca ≤ kc) (hsa : sa ≤ ks) (hw : mm_sh w) {x1 : Int32} {x2 : Int32} {xk0 : Int32} (k0 : Post (some (.int xk0)) w f) (n1 : narrow .boolean (.int xk0) = .int xk0) : mm_go E Γ 3 176 [(0, mm_rf E 136), (1, .int x1), (2, .int x2)] [.int xk0] w f ca sa := by
  exact mm_iret h he n1 d_MD_goesOn_176 hca hsa k0
theorem s_MD_goesOn_177 {E : mm_E} {Γ : mm_G} {lev kc ks ca sa : Nat} {w : mm_W} {f : mm_F} {Post : Option Value → mm_W → mm_F → Prop} (h : mm_ok E Γ b_MD_goesOn 3 "PlannedTablesModel" lev kc ks) (he : mm_end E Γ (some .boolean) kc ks Post y_MD_goesOn.name) (hca : ca ≤ kc) (hsa : sa ≤ ks) (hw : mm_sh w) {x1 : Int32} (b0 : vp_in x1 40) (k1 : Post (some (.int 1)) w (mm_up f 147 (x1).toNatClampNeg ((f 147 (x1).toNatClampNeg) + 1))) : mm_go E Γ 3 177 [(0, mm_rf E 136), (1, .int x1)] [] w f ca sa := by
  refine mm_aload_n h d_MD_goesOn_177 0 rfl rfl ?_
  refine mm_getr h fl_MD_41 rfl (is_MO hw) (rf_MO_numbers hw) (is_Mnumbers hw).1.1 d_MD_goesOn_178 ?_
  refine mm_iload_n h d_MD_goesOn_181 1 rfl rfl ?_
  refine mm_aload_n h d_MD_goesOn_182 0 rfl rfl ?_
  refine mm_getr h fl_MD_41 rfl (is_MO hw) (rf_MO_numbers hw) (is_Mnumbers hw).1.1 d_MD_goesOn_183 ?_
  refine mm_iload_n h d_MD_goesOn_186 1 rfl rfl ?_
  refine mm_iald h (is_Mnumbers hw) b0 d_MD_goesOn_187 ?_
  refine mm_iconst (v := 1) h d_MD_goesOn_188 (by decide) ?_
  refine mm_iadd h d_MD_goesOn_189 ?_
  refine mm_iast h (is_Mnumbers hw) b0 d_MD_goesOn_190 ?_
  refine mm_iconst (v := 1) h d_MD_goesOn_191 (by decide) ?_
  exact mm_iret h he rfl d_MD_goesOn_192 hca hsa k1
theorem s_MD_goesOn_193 {E : mm_E} {Γ : mm_G} {lev kc ks ca sa : Nat} {w : mm_W} {f : mm_F} {Post : Option Value → mm_W → mm_F → Prop} (h : mm_ok E Γ b_MD_goesOn 3 "PlannedTablesModel" lev kc ks) (he : mm_end E Γ (some .boolean) kc ks Post y_MD_goesOn.name) (hca : ca ≤ kc) (hsa : sa ≤ ks) (hw : mm_sh w) {x1 : Int32} (b0 : vp_in x1 40) (k1 : Post (some (.int 0)) w (mm_up f 147 (x1).toNatClampNeg ((f 147 (x1).toNatClampNeg) + 1))) : mm_go E Γ 3 193 [(0, mm_rf E 136), (1, .int x1)] [] w f ca sa := by
  refine mm_aload_n h d_MD_goesOn_193 0 rfl rfl ?_
  refine mm_getr h fl_MD_41 rfl (is_MO hw) (rf_MO_numbers hw) (is_Mnumbers hw).1.1 d_MD_goesOn_194 ?_
  refine mm_iload_n h d_MD_goesOn_197 1 rfl rfl ?_
  refine mm_aload_n h d_MD_goesOn_198 0 rfl rfl ?_
  refine mm_getr h fl_MD_41 rfl (is_MO hw) (rf_MO_numbers hw) (is_Mnumbers hw).1.1 d_MD_goesOn_199 ?_
  refine mm_iload_n h d_MD_goesOn_202 1 rfl rfl ?_
  refine mm_iald h (is_Mnumbers hw) b0 d_MD_goesOn_203 ?_
  refine mm_iconst (v := 1) h d_MD_goesOn_204 (by decide) ?_
  refine mm_iadd h d_MD_goesOn_205 ?_
  refine mm_iast h (is_Mnumbers hw) b0 d_MD_goesOn_206 ?_
  refine mm_iconst (v := 0) h d_MD_goesOn_207 (by decide) ?_
  exact mm_iret h he rfl d_MD_goesOn_208 hca hsa k1
theorem s_MD_goesOn_209 {E : mm_E} {Γ : mm_G} {lev kc ks ca sa : Nat} {w : mm_W} {f : mm_F} {Post : Option Value → mm_W → mm_F → Prop} (h : mm_ok E Γ b_MD_goesOn 3 "PlannedTablesModel" lev kc ks) (he : mm_end E Γ (some .boolean) kc ks Post y_MD_goesOn.name) (hca : ca ≤ kc) (hsa : sa ≤ ks) (hw : mm_sh w) {x1 : Int32} (b0 : vp_in x1 40) (b1 : vp_in (f 144 (x1).toNatClampNeg) 40) (b2 : vp_in (f 142 ((f 144 (x1).toNatClampNeg)).toNatClampNeg) 8) (k3 : Post (some (.int 0)) w (mm_up f 147 (x1).toNatClampNeg ((f 147 (x1).toNatClampNeg) + (f 146 ((f 142 ((f 144 (x1).toNatClampNeg)).toNatClampNeg)).toNatClampNeg)))) : mm_go E Γ 3 209 [(0, mm_rf E 136), (1, .int x1)] [] w f ca sa := by
  refine mm_aload_n h d_MD_goesOn_209 0 rfl rfl ?_
  refine mm_getr h fl_MD_41 rfl (is_MO hw) (rf_MO_numbers hw) (is_Mnumbers hw).1.1 d_MD_goesOn_210 ?_
  refine mm_iload_n h d_MD_goesOn_213 1 rfl rfl ?_
  refine mm_aload_n h d_MD_goesOn_214 0 rfl rfl ?_
  refine mm_getr h fl_MD_41 rfl (is_MO hw) (rf_MO_numbers hw) (is_Mnumbers hw).1.1 d_MD_goesOn_215 ?_
  refine mm_iload_n h d_MD_goesOn_218 1 rfl rfl ?_
  refine mm_iald h (is_Mnumbers hw) b0 d_MD_goesOn_219 ?_
  refine mm_aload_n h d_MD_goesOn_220 0 rfl rfl ?_
  refine mm_getr h fl_MD_38 rfl (is_MO hw) (rf_MO_row hw) (is_Mrow hw).1.1 d_MD_goesOn_221 ?_
  refine mm_aload_n h d_MD_goesOn_224 0 rfl rfl ?_
  refine mm_getr h fl_MD_26 rfl (is_MO hw) (rf_MO_plan hw) (is_Mplan hw).1.1 d_MD_goesOn_225 ?_
  refine mm_aload_n h d_MD_goesOn_228 0 rfl rfl ?_
  refine mm_getr h fl_MD_32 rfl (is_MO hw) (rf_MO_at hw) (is_Mat hw).1.1 d_MD_goesOn_229 ?_
  refine mm_iload_n h d_MD_goesOn_232 1 rfl rfl ?_
  refine mm_iald h (is_Mat hw) b0 d_MD_goesOn_233 ?_
  refine mm_iald h (is_Mplan hw) b1 d_MD_goesOn_234 ?_
  refine mm_iald h (is_Mrow hw) b2 d_MD_goesOn_235 ?_
  refine mm_iadd h d_MD_goesOn_236 ?_
  refine mm_iast h (is_Mnumbers hw) b0 d_MD_goesOn_237 ?_
  refine mm_iconst (v := 0) h d_MD_goesOn_238 (by decide) ?_
  exact mm_iret h he rfl d_MD_goesOn_239 hca hsa k3
theorem s_MD_goesOn_240 {E : mm_E} {Γ : mm_G} {lev kc ks ca sa : Nat} {w : mm_W} {f : mm_F} (h : mm_ok E Γ b_MD_goesOn 3 "PlannedTablesModel" lev kc ks) (hw : mm_sh w) {x1 : Int32} {vl0 vc0 vs0 : Nat} {P0 : Option Value → mm_W → mm_F → Prop} (hl0 : vl0 < lev) (hu0 : ca + vc0 ≤ kc) (hz0 : sa + vs0 ≤ ks) (m0 : mm_C E y_MD_runEnds b_MD_runEnds 4 (some .boolean) vl0 vc0 vs0 [mm_rf E 136, .int x1] w f P0) (k1 : ∀ (r : Option Value) (w1 : mm_W) (f1 : mm_F), P0 r w1 f1 → mm_go E Γ 3 245 [(0, mm_rf E 136), (1, .int x1)] (r.toList ++ []) w1 f1 (ca + vc0) (sa + vs0)) : mm_go E Γ 3 240 [(0, mm_rf E 136), (1, .int x1)] [] w f ca sa := by
  refine mm_aload_n h d_MD_goesOn_240 0 rfl rfl ?_
  refine mm_iload_n h d_MD_goesOn_241 1 rfl rfl ?_
  exact mm_callV (As := [.int x1]) (rest := []) h m0 cv_MD_153 cm_MD_runEnds hl0 (q0 := _) rfl rfl (is_MO hw) hu0 hz0 rfl rfl (Nat.le_of_ble_eq_true rfl) d_MD_goesOn_242 (fun r w1 f1 hp => k1 r w1 f1 hp)
theorem s_MD_goesOn_245 {E : mm_E} {Γ : mm_G} {lev kc ks ca sa : Nat} {w : mm_W} {f : mm_F} {Post : Option Value → mm_W → mm_F → Prop} (h : mm_ok E Γ b_MD_goesOn 3 "PlannedTablesModel" lev kc ks) (he : mm_end E Γ (some .boolean) kc ks Post y_MD_goesOn.name) (hca : ca ≤ kc) (hsa : sa ≤ ks) (hw : mm_sh w) {x1 : Int32} {xk0 : Int32} (k0 : Post (some (.int xk0)) w f) (n1 : narrow .boolean (.int xk0) = .int xk0) : mm_go E Γ 3 245 [(0, mm_rf E 136), (1, .int x1)] [.int xk0] w f ca sa := by
  exact mm_iret h he n1 d_MD_goesOn_245 hca hsa k0
theorem d_MD_push_0 : decode b_MD_push 0 = .ok (.iload_n 1, 1) := by decide +kernel
theorem d_MD_push_1 : decode b_MD_push 1 = .ok (.istore_n 2, 1) := by decide +kernel
theorem d_MD_push_2 : decode b_MD_push 2 = .ok (.iload_n 2, 1) := by decide +kernel
theorem d_MD_push_3 : decode b_MD_push 3 = .ok (.aload_n 0, 1) := by decide +kernel
theorem d_MD_push_4 : decode b_MD_push 4 = .ok (.getfield 107, 3) := by decide +kernel
theorem d_MD_push_7 : decode b_MD_push 7 = .ok (.if_icmp .ge (18), 3) := by decide +kernel
theorem d_MD_push_10 : decode b_MD_push 10 = .ok (.aload_n 0, 1) := by decide +kernel
theorem d_MD_push_11 : decode b_MD_push 11 = .ok (.iload_n 2, 1) := by decide +kernel
theorem d_MD_push_12 : decode b_MD_push 12 = .ok (.invokevirtual 156, 3) := by decide +kernel
theorem d_MD_push_15 : decode b_MD_push 15 = .ok (.ifCond .eq (10), 3) := by decide +kernel
theorem d_MD_push_18 : decode b_MD_push 18 = .ok (.iload_n 2, 1) := by decide +kernel
theorem d_MD_push_19 : decode b_MD_push 19 = .ok (.iconst (1), 1) := by decide +kernel
theorem d_MD_push_20 : decode b_MD_push 20 = .ok (.iadd, 1) := by decide +kernel
theorem d_MD_push_21 : decode b_MD_push 21 = .ok (.istore_n 2, 1) := by decide +kernel
theorem d_MD_push_22 : decode b_MD_push 22 = .ok (.goto (-20), 3) := by decide +kernel
theorem d_MD_push_25 : decode b_MD_push 25 = .ok (.iload_n 2, 1) := by decide +kernel
theorem d_MD_push_26 : decode b_MD_push 26 = .ok (.aload_n 0, 1) := by decide +kernel
theorem d_MD_push_27 : decode b_MD_push 27 = .ok (.getfield 107, 3) := by decide +kernel
theorem d_MD_push_30 : decode b_MD_push 30 = .ok (.if_icmp .ge (4), 3) := by decide +kernel
theorem d_MD_push_33 : decode b_MD_push 33 = .ok (.return_, 1) := by decide +kernel
theorem d_MD_push_34 : decode b_MD_push 34 = .ok (.aload_n 0, 1) := by decide +kernel
theorem d_MD_push_35 : decode b_MD_push 35 = .ok (.aload_n 0, 1) := by decide +kernel
theorem d_MD_push_36 : decode b_MD_push 36 = .ok (.getfield 159, 3) := by decide +kernel
theorem d_MD_push_39 : decode b_MD_push 39 = .ok (.aload_n 0, 1) := by decide +kernel
theorem d_MD_push_40 : decode b_MD_push 40 = .ok (.getfield 138, 3) := by decide +kernel
theorem d_MD_push_43 : decode b_MD_push 43 = .ok (.iadd, 1) := by decide +kernel
theorem d_MD_push_44 : decode b_MD_push 44 = .ok (.bipush (64), 2) := by decide +kernel
theorem d_MD_push_46 : decode b_MD_push 46 = .ok (.if_icmp .le (7), 3) := by decide +kernel
theorem d_MD_push_49 : decode b_MD_push 49 = .ok (.iconst (1), 1) := by decide +kernel
theorem d_MD_push_50 : decode b_MD_push 50 = .ok (.goto (4), 3) := by decide +kernel
theorem d_MD_push_53 : decode b_MD_push 53 = .ok (.iconst (0), 1) := by decide +kernel
theorem d_MD_push_54 : decode b_MD_push 54 = .ok (.putfield 162, 3) := by decide +kernel
theorem d_MD_push_57 : decode b_MD_push 57 = .ok (.iconst (0), 1) := by decide +kernel
theorem d_MD_push_58 : decode b_MD_push 58 = .ok (.istore_n 3, 1) := by decide +kernel
theorem d_MD_push_59 : decode b_MD_push 59 = .ok (.iload_n 3, 1) := by decide +kernel
theorem d_MD_push_60 : decode b_MD_push 60 = .ok (.aload_n 0, 1) := by decide +kernel
theorem d_MD_push_61 : decode b_MD_push 61 = .ok (.getfield 138, 3) := by decide +kernel
theorem d_MD_push_64 : decode b_MD_push 64 = .ok (.if_icmp .ge (33), 3) := by decide +kernel
theorem d_MD_push_67 : decode b_MD_push 67 = .ok (.aload_n 0, 1) := by decide +kernel
theorem d_MD_push_68 : decode b_MD_push 68 = .ok (.getfield 162, 3) := by decide +kernel
theorem d_MD_push_71 : decode b_MD_push 71 = .ok (.ifCond .ne (26), 3) := by decide +kernel
theorem d_MD_push_74 : decode b_MD_push 74 = .ok (.aload_n 0, 1) := by decide +kernel
theorem d_MD_push_75 : decode b_MD_push 75 = .ok (.getfield 53, 3) := by decide +kernel
theorem d_MD_push_78 : decode b_MD_push 78 = .ok (.aload_n 0, 1) := by decide +kernel
theorem d_MD_push_79 : decode b_MD_push 79 = .ok (.getfield 159, 3) := by decide +kernel
theorem d_MD_push_82 : decode b_MD_push 82 = .ok (.iload_n 3, 1) := by decide +kernel
theorem d_MD_push_83 : decode b_MD_push 83 = .ok (.iadd, 1) := by decide +kernel
theorem d_MD_push_84 : decode b_MD_push 84 = .ok (.aload_n 0, 1) := by decide +kernel
theorem d_MD_push_85 : decode b_MD_push 85 = .ok (.getfield 38, 3) := by decide +kernel
theorem d_MD_push_88 : decode b_MD_push 88 = .ok (.iload_n 3, 1) := by decide +kernel
theorem d_MD_push_89 : decode b_MD_push 89 = .ok (.iaload, 1) := by decide +kernel
theorem d_MD_push_90 : decode b_MD_push 90 = .ok (.iastore, 1) := by decide +kernel
theorem d_MD_push_91 : decode b_MD_push 91 = .ok (.iinc 3 (1), 3) := by decide +kernel
theorem d_MD_push_94 : decode b_MD_push 94 = .ok (.goto (-35), 3) := by decide +kernel
theorem d_MD_push_97 : decode b_MD_push 97 = .ok (.aload_n 0, 1) := by decide +kernel
theorem d_MD_push_98 : decode b_MD_push 98 = .ok (.aload_n 0, 1) := by decide +kernel
theorem d_MD_push_99 : decode b_MD_push 99 = .ok (.getfield 162, 3) := by decide +kernel
theorem d_MD_push_102 : decode b_MD_push 102 = .ok (.ifCond .eq (10), 3) := by decide +kernel
theorem d_MD_push_105 : decode b_MD_push 105 = .ok (.aload_n 0, 1) := by decide +kernel
theorem d_MD_push_106 : decode b_MD_push 106 = .ok (.getfield 159, 3) := by decide +kernel
theorem d_MD_push_109 : decode b_MD_push 109 = .ok (.goto (12), 3) := by decide +kernel
theorem d_MD_push_112 : decode b_MD_push 112 = .ok (.aload_n 0, 1) := by decide +kernel
theorem d_MD_push_113 : decode b_MD_push 113 = .ok (.getfield 159, 3) := by decide +kernel
theorem d_MD_push_116 : decode b_MD_push 116 = .ok (.aload_n 0, 1) := by decide +kernel
theorem d_MD_push_117 : decode b_MD_push 117 = .ok (.getfield 138, 3) := by decide +kernel
theorem d_MD_push_120 : decode b_MD_push 120 = .ok (.iadd, 1) := by decide +kernel
theorem d_MD_push_121 : decode b_MD_push 121 = .ok (.putfield 159, 3) := by decide +kernel
theorem d_MD_push_124 : decode b_MD_push 124 = .ok (.return_, 1) := by decide +kernel
theorem s_MD_push_0 {E : mm_E} {Γ : mm_G} {lev kc ks ca sa : Nat} {w : mm_W} {f : mm_F} (h : mm_ok E Γ b_MD_push 4 "PlannedTablesModel" lev kc ks) (hw : mm_sh w) {x1 : Int32} (k0 : mm_go E Γ 4 2 [(0, mm_rf E 136), (1, .int x1), (2, .int x1)] [] w f ca sa) : mm_go E Γ 4 0 [(0, mm_rf E 136), (1, .int x1)] [] w f ca sa := by
  refine mm_iload_n h d_MD_push_0 1 rfl rfl ?_
  refine mm_istore_n (lv' := [(2, .int x1), (0, mm_rf E 136), (1, .int x1)]) h d_MD_push_1 rfl (by decide) rfl ?_
  refine mm_sub [1, 2, 0] rfl ?_
  exact k0
theorem s_MD_push_2 {E : mm_E} {Γ : mm_G} {lev kc ks ca sa : Nat} {w : mm_W} {f : mm_F} (h : mm_ok E Γ b_MD_push 4 "PlannedTablesModel" lev kc ks) (hw : mm_sh w) {x1 : Int32} {x2 : Int32} (k0 : (f 136 10) ≤ x2 → mm_go E Γ 4 25 [(0, mm_rf E 136), (1, .int x1), (2, .int x2)] [] w f ca sa) {vl0 vc0 vs0 : Nat} {P0 : Option Value → mm_W → mm_F → Prop} (hl0 : vl0 < lev) (hu0 : ca + vc0 ≤ kc) (hz0 : sa + vs0 ≤ ks) (m1 : ¬ (f 136 10) ≤ x2 → mm_C E y_MD_goesOn b_MD_goesOn 3 (some .boolean) vl0 vc0 vs0 [mm_rf E 136, .int x2] w f P0) (k2 : ¬ (f 136 10) ≤ x2 → ∀ (r : Option Value) (w1 : mm_W) (f1 : mm_F), P0 r w1 f1 → mm_go E Γ 4 15 [(0, mm_rf E 136), (1, .int x1), (2, .int x2)] (r.toList ++ []) w1 f1 (ca + vc0) (sa + vs0)) : mm_go E Γ 4 2 [(0, mm_rf E 136), (1, .int x1), (2, .int x2)] [] w f ca sa := by
  refine mm_iload_n h d_MD_push_2 2 rfl rfl ?_
  refine mm_aload_n h d_MD_push_3 0 rfl rfl ?_
  refine mm_geti h fl_MD_107 rfl (is_MO hw) d_MD_push_4 ?_
  refine mm_icmp_ge h d_MD_push_7 (tgt := 25) (by decide) (fun c1 => ?_) (fun c1 => ?_)
  · skip
    exact (k0 c1)
  · skip
    refine mm_aload_n h d_MD_push_10 0 rfl rfl ?_
    refine mm_iload_n h d_MD_push_11 2 rfl rfl ?_
    exact mm_callV (As := [.int x2]) (rest := []) h (m1 c1) cv_MD_156 cm_MD_goesOn hl0 (q0 := _) rfl rfl (is_MO hw) hu0 hz0 rfl rfl (Nat.le_of_ble_eq_true rfl) d_MD_push_12 (fun r w1 f1 hp => (k2 c1) r w1 f1 hp)
theorem s_MD_push_15 {E : mm_E} {Γ : mm_G} {lev kc ks ca sa : Nat} {w : mm_W} {f : mm_F} (h : mm_ok E Γ b_MD_push 4 "PlannedTablesModel" lev kc ks) (hw : mm_sh w) {x1 : Int32} {x2 : Int32} {xk0 : Int32} (k0 : xk0 = 0 → mm_go E Γ 4 25 [(0, mm_rf E 136), (1, .int x1), (2, .int x2)] [] w f ca sa) (k1 : ¬ xk0 = 0 → mm_go E Γ 4 2 [(0, mm_rf E 136), (1, .int x1), (2, .int (x2 + 1))] [] w f ca sa) : mm_go E Γ 4 15 [(0, mm_rf E 136), (1, .int x1), (2, .int x2)] [.int xk0] w f ca sa := by
  refine mm_if_eq h d_MD_push_15 (tgt := 25) (by decide) (fun c1 => ?_) (fun c1 => ?_)
  · skip
    exact (k0 c1)
  · skip
    refine mm_iload_n h d_MD_push_18 2 rfl rfl ?_
    refine mm_iconst (v := 1) h d_MD_push_19 (by decide) ?_
    refine mm_iadd h d_MD_push_20 ?_
    refine mm_istore_n (lv' := [(2, .int (x2 + 1)), (0, mm_rf E 136), (1, .int x1)]) h d_MD_push_21 rfl (by decide) rfl ?_
    refine mm_goto h d_MD_push_22 (tgt := 2) (by decide) ?_
    refine mm_sub [1, 2, 0] rfl ?_
    exact (k1 c1)
theorem s_MD_push_25 {E : mm_E} {Γ : mm_G} {lev kc ks ca sa : Nat} {w : mm_W} {f : mm_F} {Post : Option Value → mm_W → mm_F → Prop} (h : mm_ok E Γ b_MD_push 4 "PlannedTablesModel" lev kc ks) (he : mm_end E Γ none kc ks Post y_MD_push.name) (hca : ca ≤ kc) (hsa : sa ≤ ks) (hw : mm_sh w) {x1 : Int32} {x2 : Int32} (k0 : (f 136 10) ≤ x2 → ((f 136 30) + (f 136 20)) ≤ 64 → mm_go E Γ 4 54 [(0, mm_rf E 136), (1, .int x1), (2, .int x2)] [.int 0, mm_rf E 136] w f ca sa) (k1 : (f 136 10) ≤ x2 → ¬ ((f 136 30) + (f 136 20)) ≤ 64 → mm_go E Γ 4 54 [(0, mm_rf E 136), (1, .int x1), (2, .int x2)] [.int 1, mm_rf E 136] w f ca sa) (k2 : ¬ (f 136 10) ≤ x2 → Post none w f) : mm_go E Γ 4 25 [(0, mm_rf E 136), (1, .int x1), (2, .int x2)] [] w f ca sa := by
  refine mm_iload_n h d_MD_push_25 2 rfl rfl ?_
  refine mm_aload_n h d_MD_push_26 0 rfl rfl ?_
  refine mm_geti h fl_MD_107 rfl (is_MO hw) d_MD_push_27 ?_
  refine mm_icmp_ge h d_MD_push_30 (tgt := 34) (by decide) (fun c1 => ?_) (fun c1 => ?_)
  · skip
    refine mm_aload_n h d_MD_push_34 0 rfl rfl ?_
    refine mm_aload_n h d_MD_push_35 0 rfl rfl ?_
    refine mm_geti h fl_MD_159 rfl (is_MO hw) d_MD_push_36 ?_
    refine mm_aload_n h d_MD_push_39 0 rfl rfl ?_
    refine mm_geti h fl_MD_138 rfl (is_MO hw) d_MD_push_40 ?_
    refine mm_iadd h d_MD_push_43 ?_
    refine mm_bipush (v := 64) h d_MD_push_44 (by decide) ?_
    refine mm_icmp_le h d_MD_push_46 (tgt := 53) (by decide) (fun c2 => ?_) (fun c2 => ?_)
    · skip
      refine mm_iconst (v := 0) h d_MD_push_53 (by decide) ?_
      exact (k0 c1 c2)
    · skip
      refine mm_iconst (v := 1) h d_MD_push_49 (by decide) ?_
      refine mm_goto h d_MD_push_50 (tgt := 54) (by decide) ?_
      exact (k1 c1 c2)
  · skip
    exact mm_vret h he d_MD_push_33 hca hsa (k2 c1)
theorem s_MD_push_54 {E : mm_E} {Γ : mm_G} {lev kc ks ca sa : Nat} {w : mm_W} {f : mm_F} (h : mm_ok E Γ b_MD_push 4 "PlannedTablesModel" lev kc ks) (hw : mm_sh w) {x1 : Int32} {x2 : Int32} {xk1 : Int32} (n0 : narrow .boolean (.int xk1) = .int xk1) (n1 : fits .boolean (.int xk1) = true) (k2 : mm_go E Γ 4 59 [(0, mm_rf E 136), (1, .int x1), (2, .int x2), (3, .int 0)] [] w (mm_up f 136 19 xk1) ca sa) : mm_go E Γ 4 54 [(0, mm_rf E 136), (1, .int x1), (2, .int x2)] [.int xk1, mm_rf E 136] w f ca sa := by
  refine mm_puti h fl_MD_162 (Or.inl rfl) rfl n0 n1 (is_MO hw) d_MD_push_54 ?_
  refine mm_iconst (v := 0) h d_MD_push_57 (by decide) ?_
  refine mm_istore_n (lv' := [(3, .int 0), (0, mm_rf E 136), (1, .int x1), (2, .int x2)]) h d_MD_push_58 rfl (by decide) rfl ?_
  refine mm_sub [1, 2, 3, 0] rfl ?_
  exact k2
theorem s_MD_push_59 {E : mm_E} {Γ : mm_G} {lev kc ks ca sa : Nat} {w : mm_W} {f : mm_F} (h : mm_ok E Γ b_MD_push 4 "PlannedTablesModel" lev kc ks) (hw : mm_sh w) {x1 : Int32} {x2 : Int32} {x3 : Int32} (k0 : (f 136 20) ≤ x3 → mm_go E Γ 4 97 [(0, mm_rf E 136), (1, .int x1), (2, .int x2), (3, .int x3)] [] w f ca sa) (k1 : ¬ (f 136 20) ≤ x3 → ¬ (f 136 19) = 0 → mm_go E Γ 4 97 [(0, mm_rf E 136), (1, .int x1), (2, .int x2), (3, .int x3)] [] w f ca sa) (b2 : ¬ (f 136 20) ≤ x3 → (f 136 19) = 0 → vp_in x3 8) (b3 : ¬ (f 136 20) ≤ x3 → (f 136 19) = 0 → vp_in ((f 136 30) + x3) 64) (k4 : ¬ (f 136 20) ≤ x3 → (f 136 19) = 0 → mm_go E Γ 4 59 [(0, mm_rf E 136), (1, .int x1), (2, .int x2), (3, .int (x3 + 1))] [] w (mm_up f 151 (((f 136 30) + x3)).toNatClampNeg (f 146 (x3).toNatClampNeg)) ca sa) : mm_go E Γ 4 59 [(0, mm_rf E 136), (1, .int x1), (2, .int x2), (3, .int x3)] [] w f ca sa := by
  refine mm_iload_n h d_MD_push_59 3 rfl rfl ?_
  refine mm_aload_n h d_MD_push_60 0 rfl rfl ?_
  refine mm_geti h fl_MD_138 rfl (is_MO hw) d_MD_push_61 ?_
  refine mm_icmp_ge h d_MD_push_64 (tgt := 97) (by decide) (fun c1 => ?_) (fun c1 => ?_)
  · skip
    exact (k0 c1)
  · skip
    refine mm_aload_n h d_MD_push_67 0 rfl rfl ?_
    refine mm_geti h fl_MD_162 rfl (is_MO hw) d_MD_push_68 ?_
    refine mm_if_ne h d_MD_push_71 (tgt := 97) (by decide) (fun c2 => ?_) (fun c2 => ?_)
    · skip
      exact (k1 c1 c2)
    · skip
      refine mm_aload_n h d_MD_push_74 0 rfl rfl ?_
      refine mm_getr h fl_MD_53 rfl (is_MO hw) (rf_MO_output hw) (is_Moutput hw).1.1 d_MD_push_75 ?_
      refine mm_aload_n h d_MD_push_78 0 rfl rfl ?_
      refine mm_geti h fl_MD_159 rfl (is_MO hw) d_MD_push_79 ?_
      refine mm_iload_n h d_MD_push_82 3 rfl rfl ?_
      refine mm_iadd h d_MD_push_83 ?_
      refine mm_aload_n h d_MD_push_84 0 rfl rfl ?_
      refine mm_getr h fl_MD_38 rfl (is_MO hw) (rf_MO_row hw) (is_Mrow hw).1.1 d_MD_push_85 ?_
      refine mm_iload_n h d_MD_push_88 3 rfl rfl ?_
      refine mm_iald h (is_Mrow hw) (b2 c1 c2) d_MD_push_89 ?_
      refine mm_iast h (is_Moutput hw) (b3 c1 c2) d_MD_push_90 ?_
      refine mm_iinc (lv' := [(3, .int (x3 + 1)), (0, mm_rf E 136), (1, .int x1), (2, .int x2)]) h d_MD_push_91 3 rfl (congrArg (fun z => x3 + z) lit1) (by decide) rfl ?_
      refine mm_goto h d_MD_push_94 (tgt := 59) (by decide) ?_
      refine mm_sub [1, 2, 3, 0] rfl ?_
      exact (k4 c1 c2)
theorem s_MD_push_97 {E : mm_E} {Γ : mm_G} {lev kc ks ca sa : Nat} {w : mm_W} {f : mm_F} (h : mm_ok E Γ b_MD_push 4 "PlannedTablesModel" lev kc ks) (hw : mm_sh w) {x1 : Int32} {x2 : Int32} {x3 : Int32} (k0 : (f 136 19) = 0 → mm_go E Γ 4 121 [(0, mm_rf E 136), (1, .int x1), (2, .int x2), (3, .int x3)] [.int ((f 136 30) + (f 136 20)), mm_rf E 136] w f ca sa) (k1 : ¬ (f 136 19) = 0 → mm_go E Γ 4 121 [(0, mm_rf E 136), (1, .int x1), (2, .int x2), (3, .int x3)] [.int (f 136 30), mm_rf E 136] w f ca sa) : mm_go E Γ 4 97 [(0, mm_rf E 136), (1, .int x1), (2, .int x2), (3, .int x3)] [] w f ca sa := by
  refine mm_aload_n h d_MD_push_97 0 rfl rfl ?_
  refine mm_aload_n h d_MD_push_98 0 rfl rfl ?_
  refine mm_geti h fl_MD_162 rfl (is_MO hw) d_MD_push_99 ?_
  refine mm_if_eq h d_MD_push_102 (tgt := 112) (by decide) (fun c1 => ?_) (fun c1 => ?_)
  · skip
    refine mm_aload_n h d_MD_push_112 0 rfl rfl ?_
    refine mm_geti h fl_MD_159 rfl (is_MO hw) d_MD_push_113 ?_
    refine mm_aload_n h d_MD_push_116 0 rfl rfl ?_
    refine mm_geti h fl_MD_138 rfl (is_MO hw) d_MD_push_117 ?_
    refine mm_iadd h d_MD_push_120 ?_
    exact (k0 c1)
  · skip
    refine mm_aload_n h d_MD_push_105 0 rfl rfl ?_
    refine mm_geti h fl_MD_159 rfl (is_MO hw) d_MD_push_106 ?_
    refine mm_goto h d_MD_push_109 (tgt := 121) (by decide) ?_
    exact (k1 c1)
theorem s_MD_push_121 {E : mm_E} {Γ : mm_G} {lev kc ks ca sa : Nat} {w : mm_W} {f : mm_F} {Post : Option Value → mm_W → mm_F → Prop} (h : mm_ok E Γ b_MD_push 4 "PlannedTablesModel" lev kc ks) (he : mm_end E Γ none kc ks Post y_MD_push.name) (hca : ca ≤ kc) (hsa : sa ≤ ks) (hw : mm_sh w) {x1 : Int32} {x2 : Int32} {x3 : Int32} {xk1 : Int32} (k0 : Post none w (mm_up f 136 30 xk1)) : mm_go E Γ 4 121 [(0, mm_rf E 136), (1, .int x1), (2, .int x2), (3, .int x3)] [.int xk1, mm_rf E 136] w f ca sa := by
  refine mm_puti h fl_MD_159 (Or.inl rfl) rfl rfl rfl (is_MO hw) d_MD_push_121 ?_
  exact mm_vret h he d_MD_push_124 hca hsa k0
theorem d_MD_load_0 : decode b_MD_load 0 = .ok (.iconst (0), 1) := by decide +kernel
theorem d_MD_load_1 : decode b_MD_load 1 = .ok (.istore 4, 2) := by decide +kernel
theorem d_MD_load_3 : decode b_MD_load 3 = .ok (.iload 4, 2) := by decide +kernel
theorem d_MD_load_5 : decode b_MD_load 5 = .ok (.iload_n 3, 1) := by decide +kernel
theorem d_MD_load_6 : decode b_MD_load 6 = .ok (.if_icmp .ge (29), 3) := by decide +kernel
theorem d_MD_load_9 : decode b_MD_load 9 = .ok (.aload_n 0, 1) := by decide +kernel
theorem d_MD_load_10 : decode b_MD_load 10 = .ok (.getfield 38, 3) := by decide +kernel
theorem d_MD_load_13 : decode b_MD_load 13 = .ok (.iload_n 2, 1) := by decide +kernel
theorem d_MD_load_14 : decode b_MD_load 14 = .ok (.iload 4, 2) := by decide +kernel
theorem d_MD_load_16 : decode b_MD_load 16 = .ok (.iadd, 1) := by decide +kernel
theorem d_MD_load_17 : decode b_MD_load 17 = .ok (.aload_n 0, 1) := by decide +kernel
theorem d_MD_load_18 : decode b_MD_load 18 = .ok (.getfield 23, 3) := by decide +kernel
theorem d_MD_load_21 : decode b_MD_load 21 = .ok (.iconst (4), 1) := by decide +kernel
theorem d_MD_load_22 : decode b_MD_load 22 = .ok (.iload_n 1, 1) := by decide +kernel
theorem d_MD_load_23 : decode b_MD_load 23 = .ok (.imul, 1) := by decide +kernel
theorem d_MD_load_24 : decode b_MD_load 24 = .ok (.iload 4, 2) := by decide +kernel
theorem d_MD_load_26 : decode b_MD_load 26 = .ok (.iadd, 1) := by decide +kernel
theorem d_MD_load_27 : decode b_MD_load 27 = .ok (.iaload, 1) := by decide +kernel
theorem d_MD_load_28 : decode b_MD_load 28 = .ok (.iastore, 1) := by decide +kernel
theorem d_MD_load_29 : decode b_MD_load 29 = .ok (.iinc 4 (1), 3) := by decide +kernel
theorem d_MD_load_32 : decode b_MD_load 32 = .ok (.goto (-29), 3) := by decide +kernel
theorem d_MD_load_35 : decode b_MD_load 35 = .ok (.aload_n 0, 1) := by decide +kernel
theorem d_MD_load_36 : decode b_MD_load 36 = .ok (.iload_n 2, 1) := by decide +kernel
theorem d_MD_load_37 : decode b_MD_load 37 = .ok (.iload_n 3, 1) := by decide +kernel
theorem d_MD_load_38 : decode b_MD_load 38 = .ok (.iadd, 1) := by decide +kernel
theorem d_MD_load_39 : decode b_MD_load 39 = .ok (.putfield 138, 3) := by decide +kernel
theorem d_MD_load_42 : decode b_MD_load 42 = .ok (.return_, 1) := by decide +kernel
theorem s_MD_load_0 {E : mm_E} {Γ : mm_G} {lev kc ks ca sa : Nat} {w : mm_W} {f : mm_F} (h : mm_ok E Γ b_MD_load 5 "PlannedTablesModel" lev kc ks) (hw : mm_sh w) {x1 : Int32} {x2 : Int32} {x3 : Int32} (k0 : mm_go E Γ 5 3 [(0, mm_rf E 136), (1, .int x1), (2, .int x2), (3, .int x3), (4, .int 0)] [] w f ca sa) : mm_go E Γ 5 0 [(0, mm_rf E 136), (1, .int x1), (2, .int x2), (3, .int x3)] [] w f ca sa := by
  refine mm_iconst (v := 0) h d_MD_load_0 (by decide) ?_
  refine mm_istore (lv' := [(4, .int 0), (0, mm_rf E 136), (1, .int x1), (2, .int x2), (3, .int x3)]) h d_MD_load_1 (by decide) rfl ?_
  refine mm_sub [1, 2, 3, 4, 0] rfl ?_
  exact k0
theorem s_MD_load_3 {E : mm_E} {Γ : mm_G} {lev kc ks ca sa : Nat} {w : mm_W} {f : mm_F} {Post : Option Value → mm_W → mm_F → Prop} (h : mm_ok E Γ b_MD_load 5 "PlannedTablesModel" lev kc ks) (he : mm_end E Γ none kc ks Post y_MD_load.name) (hca : ca ≤ kc) (hsa : sa ≤ ks) (hw : mm_sh w) {x1 : Int32} {x2 : Int32} {x3 : Int32} {x4 : Int32} (k0 : x3 ≤ x4 → Post none w (mm_up f 136 20 (x2 + x3))) (b1 : ¬ x3 ≤ x4 → vp_in ((4 * x1) + x4) 192) (b2 : ¬ x3 ≤ x4 → vp_in (x2 + x4) 8) (k3 : ¬ x3 ≤ x4 → mm_go E Γ 5 3 [(0, mm_rf E 136), (1, .int x1), (2, .int x2), (3, .int x3), (4, .int (x4 + 1))] [] w (mm_up f 146 ((x2 + x4)).toNatClampNeg (f 141 (((4 * x1) + x4)).toNatClampNeg)) ca sa) : mm_go E Γ 5 3 [(0, mm_rf E 136), (1, .int x1), (2, .int x2), (3, .int x3), (4, .int x4)] [] w f ca sa := by
  refine mm_iload h d_MD_load_3 4 rfl ?_
  refine mm_iload_n h d_MD_load_5 3 rfl rfl ?_
  refine mm_icmp_ge h d_MD_load_6 (tgt := 35) (by decide) (fun c1 => ?_) (fun c1 => ?_)
  · skip
    refine mm_aload_n h d_MD_load_35 0 rfl rfl ?_
    refine mm_iload_n h d_MD_load_36 2 rfl rfl ?_
    refine mm_iload_n h d_MD_load_37 3 rfl rfl ?_
    refine mm_iadd h d_MD_load_38 ?_
    refine mm_puti h fl_MD_138 (Or.inl rfl) rfl rfl rfl (is_MO hw) d_MD_load_39 ?_
    exact mm_vret h he d_MD_load_42 hca hsa (k0 c1)
  · skip
    refine mm_aload_n h d_MD_load_9 0 rfl rfl ?_
    refine mm_getr h fl_MD_38 rfl (is_MO hw) (rf_MO_row hw) (is_Mrow hw).1.1 d_MD_load_10 ?_
    refine mm_iload_n h d_MD_load_13 2 rfl rfl ?_
    refine mm_iload h d_MD_load_14 4 rfl ?_
    refine mm_iadd h d_MD_load_16 ?_
    refine mm_aload_n h d_MD_load_17 0 rfl rfl ?_
    refine mm_getr h fl_MD_23 rfl (is_MO hw) (rf_MO_cells hw) (is_Mcells hw).1.1 d_MD_load_18 ?_
    refine mm_iconst (v := 4) h d_MD_load_21 (by decide) ?_
    refine mm_iload_n h d_MD_load_22 1 rfl rfl ?_
    refine mm_imul h d_MD_load_23 ?_
    refine mm_iload h d_MD_load_24 4 rfl ?_
    refine mm_iadd h d_MD_load_26 ?_
    refine mm_iald h (is_Mcells hw) (b1 c1) d_MD_load_27 ?_
    refine mm_iast h (is_Mrow hw) (b2 c1) d_MD_load_28 ?_
    refine mm_iinc (lv' := [(4, .int (x4 + 1)), (0, mm_rf E 136), (1, .int x1), (2, .int x2), (3, .int x3)]) h d_MD_load_29 4 rfl (congrArg (fun z => x4 + z) lit1) (by decide) rfl ?_
    refine mm_goto h d_MD_load_32 (tgt := 3) (by decide) ?_
    refine mm_sub [1, 2, 3, 4, 0] rfl ?_
    exact (k3 c1)
theorem d_MD_close_0 : decode b_MD_close 0 = .ok (.aload_n 0, 1) := by decide +kernel
theorem d_MD_close_1 : decode b_MD_close 1 = .ok (.getfield 29, 3) := by decide +kernel
theorem d_MD_close_4 : decode b_MD_close 4 = .ok (.iload_n 1, 1) := by decide +kernel
theorem d_MD_close_5 : decode b_MD_close 5 = .ok (.iaload, 1) := by decide +kernel
theorem d_MD_close_6 : decode b_MD_close 6 = .ok (.bipush (8), 2) := by decide +kernel
theorem d_MD_close_8 : decode b_MD_close 8 = .ok (.if_icmp .eq (34), 3) := by decide +kernel
theorem d_MD_close_11 : decode b_MD_close 11 = .ok (.aload_n 0, 1) := by decide +kernel
theorem d_MD_close_12 : decode b_MD_close 12 = .ok (.getfield 29, 3) := by decide +kernel
theorem d_MD_close_15 : decode b_MD_close 15 = .ok (.iload_n 1, 1) := by decide +kernel
theorem d_MD_close_16 : decode b_MD_close 16 = .ok (.iaload, 1) := by decide +kernel
theorem d_MD_close_17 : decode b_MD_close 17 = .ok (.bipush (9), 2) := by decide +kernel
theorem d_MD_close_19 : decode b_MD_close 19 = .ok (.if_icmp .eq (23), 3) := by decide +kernel
theorem d_MD_close_22 : decode b_MD_close 22 = .ok (.aload_n 0, 1) := by decide +kernel
theorem d_MD_close_23 : decode b_MD_close 23 = .ok (.getfield 29, 3) := by decide +kernel
theorem d_MD_close_26 : decode b_MD_close 26 = .ok (.iload_n 1, 1) := by decide +kernel
theorem d_MD_close_27 : decode b_MD_close 27 = .ok (.iaload, 1) := by decide +kernel
theorem d_MD_close_28 : decode b_MD_close 28 = .ok (.bipush (10), 2) := by decide +kernel
theorem d_MD_close_30 : decode b_MD_close 30 = .ok (.if_icmp .ne (16), 3) := by decide +kernel
theorem d_MD_close_33 : decode b_MD_close 33 = .ok (.aload_n 0, 1) := by decide +kernel
theorem d_MD_close_34 : decode b_MD_close 34 = .ok (.getfield 47, 3) := by decide +kernel
theorem d_MD_close_37 : decode b_MD_close 37 = .ok (.iload_n 1, 1) := by decide +kernel
theorem d_MD_close_38 : decode b_MD_close 38 = .ok (.baload, 1) := by decide +kernel
theorem d_MD_close_39 : decode b_MD_close 39 = .ok (.ifCond .eq (7), 3) := by decide +kernel
theorem d_MD_close_42 : decode b_MD_close 42 = .ok (.iconst (1), 1) := by decide +kernel
theorem d_MD_close_43 : decode b_MD_close 43 = .ok (.goto (4), 3) := by decide +kernel
theorem d_MD_close_46 : decode b_MD_close 46 = .ok (.iconst (0), 1) := by decide +kernel
theorem d_MD_close_47 : decode b_MD_close 47 = .ok (.istore_n 2, 1) := by decide +kernel
theorem d_MD_close_48 : decode b_MD_close 48 = .ok (.iload_n 2, 1) := by decide +kernel
theorem d_MD_close_49 : decode b_MD_close 49 = .ok (.ifCond .ne (4), 3) := by decide +kernel
theorem d_MD_close_52 : decode b_MD_close 52 = .ok (.return_, 1) := by decide +kernel
theorem d_MD_close_53 : decode b_MD_close 53 = .ok (.aload_n 0, 1) := by decide +kernel
theorem d_MD_close_54 : decode b_MD_close 54 = .ok (.getfield 38, 3) := by decide +kernel
theorem d_MD_close_57 : decode b_MD_close 57 = .ok (.iconst (0), 1) := by decide +kernel
theorem d_MD_close_58 : decode b_MD_close 58 = .ok (.aload_n 0, 1) := by decide +kernel
theorem d_MD_close_59 : decode b_MD_close 59 = .ok (.getfield 29, 3) := by decide +kernel
theorem d_MD_close_62 : decode b_MD_close 62 = .ok (.iload_n 1, 1) := by decide +kernel
theorem d_MD_close_63 : decode b_MD_close 63 = .ok (.iaload, 1) := by decide +kernel
theorem d_MD_close_64 : decode b_MD_close 64 = .ok (.bipush (10), 2) := by decide +kernel
theorem d_MD_close_66 : decode b_MD_close 66 = .ok (.if_icmp .ne (12), 3) := by decide +kernel
theorem d_MD_close_69 : decode b_MD_close 69 = .ok (.aload_n 0, 1) := by decide +kernel
theorem d_MD_close_70 : decode b_MD_close 70 = .ok (.getfield 44, 3) := by decide +kernel
theorem d_MD_close_73 : decode b_MD_close 73 = .ok (.iload_n 1, 1) := by decide +kernel
theorem d_MD_close_74 : decode b_MD_close 74 = .ok (.iaload, 1) := by decide +kernel
theorem d_MD_close_75 : decode b_MD_close 75 = .ok (.goto (9), 3) := by decide +kernel
theorem d_MD_close_78 : decode b_MD_close 78 = .ok (.aload_n 0, 1) := by decide +kernel
theorem d_MD_close_79 : decode b_MD_close 79 = .ok (.getfield 41, 3) := by decide +kernel
theorem d_MD_close_82 : decode b_MD_close 82 = .ok (.iload_n 1, 1) := by decide +kernel
theorem d_MD_close_83 : decode b_MD_close 83 = .ok (.iaload, 1) := by decide +kernel
theorem d_MD_close_84 : decode b_MD_close 84 = .ok (.iastore, 1) := by decide +kernel
theorem d_MD_close_85 : decode b_MD_close 85 = .ok (.aload_n 0, 1) := by decide +kernel
theorem d_MD_close_86 : decode b_MD_close 86 = .ok (.getfield 38, 3) := by decide +kernel
theorem d_MD_close_89 : decode b_MD_close 89 = .ok (.iconst (1), 1) := by decide +kernel
theorem d_MD_close_90 : decode b_MD_close 90 = .ok (.aload_n 0, 1) := by decide +kernel
theorem d_MD_close_91 : decode b_MD_close 91 = .ok (.getfield 41, 3) := by decide +kernel
theorem d_MD_close_94 : decode b_MD_close 94 = .ok (.iload_n 1, 1) := by decide +kernel
theorem d_MD_close_95 : decode b_MD_close 95 = .ok (.iaload, 1) := by decide +kernel
theorem d_MD_close_96 : decode b_MD_close 96 = .ok (.iastore, 1) := by decide +kernel
theorem d_MD_close_97 : decode b_MD_close 97 = .ok (.aload_n 0, 1) := by decide +kernel
theorem d_MD_close_98 : decode b_MD_close 98 = .ok (.aload_n 0, 1) := by decide +kernel
theorem d_MD_close_99 : decode b_MD_close 99 = .ok (.getfield 29, 3) := by decide +kernel
theorem d_MD_close_102 : decode b_MD_close 102 = .ok (.iload_n 1, 1) := by decide +kernel
theorem d_MD_close_103 : decode b_MD_close 103 = .ok (.iaload, 1) := by decide +kernel
theorem d_MD_close_104 : decode b_MD_close 104 = .ok (.bipush (10), 2) := by decide +kernel
theorem d_MD_close_106 : decode b_MD_close 106 = .ok (.if_icmp .ne (7), 3) := by decide +kernel
theorem d_MD_close_109 : decode b_MD_close 109 = .ok (.iconst (2), 1) := by decide +kernel
theorem d_MD_close_110 : decode b_MD_close 110 = .ok (.goto (4), 3) := by decide +kernel
theorem d_MD_close_113 : decode b_MD_close 113 = .ok (.iconst (1), 1) := by decide +kernel
theorem d_MD_close_114 : decode b_MD_close 114 = .ok (.putfield 138, 3) := by decide +kernel
theorem d_MD_close_117 : decode b_MD_close 117 = .ok (.aload_n 0, 1) := by decide +kernel
theorem d_MD_close_118 : decode b_MD_close 118 = .ok (.iload_n 1, 1) := by decide +kernel
theorem d_MD_close_119 : decode b_MD_close 119 = .ok (.iconst (1), 1) := by decide +kernel
theorem d_MD_close_120 : decode b_MD_close 120 = .ok (.iadd, 1) := by decide +kernel
theorem d_MD_close_121 : decode b_MD_close 121 = .ok (.invokevirtual 165, 3) := by decide +kernel
theorem d_MD_close_124 : decode b_MD_close 124 = .ok (.return_, 1) := by decide +kernel
theorem s_MD_close_0 {E : mm_E} {Γ : mm_G} {lev kc ks ca sa : Nat} {w : mm_W} {f : mm_F} (h : mm_ok E Γ b_MD_close 3 "PlannedTablesModel" lev kc ks) (hw : mm_sh w) {x1 : Int32} (b0 : vp_in x1 40) (k1 : (f 143 (x1).toNatClampNeg) = 8 → mm_go E Γ 3 42 [(0, mm_rf E 136), (1, .int x1)] [] w f ca sa) (k2 : ¬ (f 143 (x1).toNatClampNeg) = 8 → (f 143 (x1).toNatClampNeg) = 9 → mm_go E Γ 3 42 [(0, mm_rf E 136), (1, .int x1)] [] w f ca sa) (k3 : ¬ (f 143 (x1).toNatClampNeg) = 8 → ¬ (f 143 (x1).toNatClampNeg) = 9 → ¬ (f 143 (x1).toNatClampNeg) = 10 → mm_go E Γ 3 46 [(0, mm_rf E 136), (1, .int x1)] [] w f ca sa) (k4 : ¬ (f 143 (x1).toNatClampNeg) = 8 → ¬ (f 143 (x1).toNatClampNeg) = 9 → (f 143 (x1).toNatClampNeg) = 10 → (f 149 (x1).toNatClampNeg) = 0 → mm_go E Γ 3 46 [(0, mm_rf E 136), (1, .int x1)] [] w f ca sa) (k5 : ¬ (f 143 (x1).toNatClampNeg) = 8 → ¬ (f 143 (x1).toNatClampNeg) = 9 → (f 143 (x1).toNatClampNeg) = 10 → ¬ (f 149 (x1).toNatClampNeg) = 0 → mm_go E Γ 3 42 [(0, mm_rf E 136), (1, .int x1)] [] w f ca sa) : mm_go E Γ 3 0 [(0, mm_rf E 136), (1, .int x1)] [] w f ca sa := by
  refine mm_aload_n h d_MD_close_0 0 rfl rfl ?_
  refine mm_getr h fl_MD_29 rfl (is_MO hw) (rf_MO_ops hw) (is_Mops hw).1.1 d_MD_close_1 ?_
  refine mm_iload_n h d_MD_close_4 1 rfl rfl ?_
  refine mm_iald h (is_Mops hw) b0 d_MD_close_5 ?_
  refine mm_bipush (v := 8) h d_MD_close_6 (by decide) ?_
  refine mm_icmp_eq h d_MD_close_8 (tgt := 42) (by decide) (fun c1 => ?_) (fun c1 => ?_)
  · skip
    exact (k1 c1)
  · skip
    refine mm_aload_n h d_MD_close_11 0 rfl rfl ?_
    refine mm_getr h fl_MD_29 rfl (is_MO hw) (rf_MO_ops hw) (is_Mops hw).1.1 d_MD_close_12 ?_
    refine mm_iload_n h d_MD_close_15 1 rfl rfl ?_
    refine mm_iald h (is_Mops hw) b0 d_MD_close_16 ?_
    refine mm_bipush (v := 9) h d_MD_close_17 (by decide) ?_
    refine mm_icmp_eq h d_MD_close_19 (tgt := 42) (by decide) (fun c2 => ?_) (fun c2 => ?_)
    · skip
      exact (k2 c1 c2)
    · skip
      refine mm_aload_n h d_MD_close_22 0 rfl rfl ?_
      refine mm_getr h fl_MD_29 rfl (is_MO hw) (rf_MO_ops hw) (is_Mops hw).1.1 d_MD_close_23 ?_
      refine mm_iload_n h d_MD_close_26 1 rfl rfl ?_
      refine mm_iald h (is_Mops hw) b0 d_MD_close_27 ?_
      refine mm_bipush (v := 10) h d_MD_close_28 (by decide) ?_
      refine mm_icmp_ne h d_MD_close_30 (tgt := 46) (by decide) (fun c3 => ?_) (fun c3 => ?_)
      · skip
        exact (k3 c1 c2 c3)
      · skip
        refine mm_aload_n h d_MD_close_33 0 rfl rfl ?_
        refine mm_getr h fl_MD_47 rfl (is_MO hw) (rf_MO_has hw) (is_Mhas hw).1.1 d_MD_close_34 ?_
        refine mm_iload_n h d_MD_close_37 1 rfl rfl ?_
        refine mm_zald h (is_Mhas hw) b0 d_MD_close_38 ?_
        refine mm_if_eq h d_MD_close_39 (tgt := 46) (by decide) (fun c4 => ?_) (fun c4 => ?_)
        · skip
          exact (k4 c1 c2 c3 c4)
        · skip
          exact (k5 c1 c2 c3 c4)
theorem s_MD_close_42 {E : mm_E} {Γ : mm_G} {lev kc ks ca sa : Nat} {w : mm_W} {f : mm_F} (h : mm_ok E Γ b_MD_close 3 "PlannedTablesModel" lev kc ks) (hw : mm_sh w) {x1 : Int32} (k0 : mm_go E Γ 3 47 [(0, mm_rf E 136), (1, .int x1)] [.int 1] w f ca sa) : mm_go E Γ 3 42 [(0, mm_rf E 136), (1, .int x1)] [] w f ca sa := by
  refine mm_iconst (v := 1) h d_MD_close_42 (by decide) ?_
  refine mm_goto h d_MD_close_43 (tgt := 47) (by decide) ?_
  exact k0
theorem s_MD_close_46 {E : mm_E} {Γ : mm_G} {lev kc ks ca sa : Nat} {w : mm_W} {f : mm_F} (h : mm_ok E Γ b_MD_close 3 "PlannedTablesModel" lev kc ks) (hw : mm_sh w) {x1 : Int32} (k0 : mm_go E Γ 3 47 [(0, mm_rf E 136), (1, .int x1)] [.int 0] w f ca sa) : mm_go E Γ 3 46 [(0, mm_rf E 136), (1, .int x1)] [] w f ca sa := by
  refine mm_iconst (v := 0) h d_MD_close_46 (by decide) ?_
  exact k0
theorem s_MD_close_47 {E : mm_E} {Γ : mm_G} {lev kc ks ca sa : Nat} {w : mm_W} {f : mm_F} {Post : Option Value → mm_W → mm_F → Prop} (h : mm_ok E Γ b_MD_close 3 "PlannedTablesModel" lev kc ks) (he : mm_end E Γ none kc ks Post y_MD_close.name) (hca : ca ≤ kc) (hsa : sa ≤ ks) (hw : mm_sh w) {x1 : Int32} {xk0 : Int32} (b0 : ¬ xk0 = 0 → vp_in x1 40) (k1 : ¬ xk0 = 0 → ¬ (f 143 (x1).toNatClampNeg) = 10 → mm_go E Γ 3 84 [(0, mm_rf E 136), (1, .int x1), (2, .int xk0)] [.int (f 147 (x1).toNatClampNeg), .int 0, mm_rf E 146] w f ca sa) (k2 : ¬ xk0 = 0 → (f 143 (x1).toNatClampNeg) = 10 → mm_go E Γ 3 84 [(0, mm_rf E 136), (1, .int x1), (2, .int xk0)] [.int (f 148 (x1).toNatClampNeg), .int 0, mm_rf E 146] w f ca sa) (k3 : xk0 = 0 → Post none w f) : mm_go E Γ 3 47 [(0, mm_rf E 136), (1, .int x1)] [.int xk0] w f ca sa := by
  refine mm_istore_n (lv' := [(2, .int xk0), (0, mm_rf E 136), (1, .int x1)]) h d_MD_close_47 rfl (by decide) rfl ?_
  refine mm_iload_n h d_MD_close_48 0 rfl rfl ?_
  refine mm_if_ne h d_MD_close_49 (tgt := 53) (by decide) (fun c1 => ?_) (fun c1 => ?_)
  · skip
    refine mm_aload_n h d_MD_close_53 1 rfl rfl ?_
    refine mm_getr h fl_MD_38 rfl (is_MO hw) (rf_MO_row hw) (is_Mrow hw).1.1 d_MD_close_54 ?_
    refine mm_iconst (v := 0) h d_MD_close_57 (by decide) ?_
    refine mm_aload_n h d_MD_close_58 1 rfl rfl ?_
    refine mm_getr h fl_MD_29 rfl (is_MO hw) (rf_MO_ops hw) (is_Mops hw).1.1 d_MD_close_59 ?_
    refine mm_iload_n h d_MD_close_62 2 rfl rfl ?_
    refine mm_iald h (is_Mops hw) (b0 c1) d_MD_close_63 ?_
    refine mm_bipush (v := 10) h d_MD_close_64 (by decide) ?_
    refine mm_icmp_ne h d_MD_close_66 (tgt := 78) (by decide) (fun c2 => ?_) (fun c2 => ?_)
    · skip
      refine mm_aload_n h d_MD_close_78 1 rfl rfl ?_
      refine mm_getr h fl_MD_41 rfl (is_MO hw) (rf_MO_numbers hw) (is_Mnumbers hw).1.1 d_MD_close_79 ?_
      refine mm_iload_n h d_MD_close_82 2 rfl rfl ?_
      refine mm_iald h (is_Mnumbers hw) (b0 c1) d_MD_close_83 ?_
      refine mm_sub [1, 2, 0] rfl ?_
      exact (k1 c1 c2)
    · skip
      refine mm_aload_n h d_MD_close_69 1 rfl rfl ?_
      refine mm_getr h fl_MD_44 rfl (is_MO hw) (rf_MO_latest hw) (is_Mlatest hw).1.1 d_MD_close_70 ?_
      refine mm_iload_n h d_MD_close_73 2 rfl rfl ?_
      refine mm_iald h (is_Mlatest hw) (b0 c1) d_MD_close_74 ?_
      refine mm_goto h d_MD_close_75 (tgt := 84) (by decide) ?_
      refine mm_sub [1, 2, 0] rfl ?_
      exact (k2 c1 c2)
  · skip
    exact mm_vret h he d_MD_close_52 hca hsa (k3 c1)
theorem s_MD_close_84 {E : mm_E} {Γ : mm_G} {lev kc ks ca sa : Nat} {w : mm_W} {f : mm_F} (h : mm_ok E Γ b_MD_close 3 "PlannedTablesModel" lev kc ks) (hw : mm_sh w) {x1 : Int32} {x2 : Int32} {xk1 : Int32} {xk2 : Int32} (b0 : vp_in xk1 8) (b1 : vp_in x1 40) (k2 : ¬ ((mm_up (mm_up f 146 (xk1).toNatClampNeg xk2) 146 1 ((mm_up f 146 (xk1).toNatClampNeg xk2) 147 (x1).toNatClampNeg)) 143 (x1).toNatClampNeg) = 10 → mm_go E Γ 3 114 [(0, mm_rf E 136), (1, .int x1), (2, .int x2)] [.int 1, mm_rf E 136] w (mm_up (mm_up f 146 (xk1).toNatClampNeg xk2) 146 1 ((mm_up f 146 (xk1).toNatClampNeg xk2) 147 (x1).toNatClampNeg)) ca sa) (k3 : ((mm_up (mm_up f 146 (xk1).toNatClampNeg xk2) 146 1 ((mm_up f 146 (xk1).toNatClampNeg xk2) 147 (x1).toNatClampNeg)) 143 (x1).toNatClampNeg) = 10 → mm_go E Γ 3 114 [(0, mm_rf E 136), (1, .int x1), (2, .int x2)] [.int 2, mm_rf E 136] w (mm_up (mm_up f 146 (xk1).toNatClampNeg xk2) 146 1 ((mm_up f 146 (xk1).toNatClampNeg xk2) 147 (x1).toNatClampNeg)) ca sa) : mm_go E Γ 3 84 [(0, mm_rf E 136), (1, .int x1), (2, .int x2)] [.int xk2, .int xk1, mm_rf E 146] w f ca sa := by
  refine mm_iast h (is_Mrow hw) b0 d_MD_close_84 ?_
  refine mm_aload_n h d_MD_close_85 0 rfl rfl ?_
  refine mm_getr h fl_MD_38 rfl (is_MO hw) (rf_MO_row hw) (is_Mrow hw).1.1 d_MD_close_86 ?_
  refine mm_iconst (v := 1) h d_MD_close_89 (by decide) ?_
  refine mm_aload_n h d_MD_close_90 0 rfl rfl ?_
  refine mm_getr h fl_MD_41 rfl (is_MO hw) (rf_MO_numbers hw) (is_Mnumbers hw).1.1 d_MD_close_91 ?_
  refine mm_iload_n h d_MD_close_94 1 rfl rfl ?_
  refine mm_iald h (is_Mnumbers hw) b1 d_MD_close_95 ?_
  refine mm_iast h (is_Mrow hw) (by unfold vp_in; decide) d_MD_close_96 ?_
  refine mm_aload_n h d_MD_close_97 0 rfl rfl ?_
  refine mm_aload_n h d_MD_close_98 0 rfl rfl ?_
  refine mm_getr h fl_MD_29 rfl (is_MO hw) (rf_MO_ops hw) (is_Mops hw).1.1 d_MD_close_99 ?_
  refine mm_iload_n h d_MD_close_102 1 rfl rfl ?_
  refine mm_iald h (is_Mops hw) b1 d_MD_close_103 ?_
  refine mm_bipush (v := 10) h d_MD_close_104 (by decide) ?_
  refine mm_icmp_ne h d_MD_close_106 (tgt := 113) (by decide) (fun c1 => ?_) (fun c1 => ?_)
  · skip
    refine mm_iconst (v := 1) h d_MD_close_113 (by decide) ?_
    exact (k2 c1)
  · skip
    refine mm_iconst (v := 2) h d_MD_close_109 (by decide) ?_
    refine mm_goto h d_MD_close_110 (tgt := 114) (by decide) ?_
    exact (k3 c1)
theorem s_MD_close_114 {E : mm_E} {Γ : mm_G} {lev kc ks ca sa : Nat} {w : mm_W} {f : mm_F} (h : mm_ok E Γ b_MD_close 3 "PlannedTablesModel" lev kc ks) (hw : mm_sh w) {x1 : Int32} {x2 : Int32} {xk1 : Int32} {vl0 vc0 vs0 : Nat} {P0 : Option Value → mm_W → mm_F → Prop} (hl0 : vl0 < lev) (hu0 : ca + vc0 ≤ kc) (hz0 : sa + vs0 ≤ ks) (m0 : mm_C E y_MD_push b_MD_push 4 none vl0 vc0 vs0 [mm_rf E 136, .int (x1 + 1)] w (mm_up f 136 20 xk1) P0) (k1 : ∀ (r : Option Value) (w1 : mm_W) (f1 : mm_F), P0 r w1 f1 → mm_go E Γ 3 124 [(0, mm_rf E 136), (1, .int x1), (2, .int x2)] (r.toList ++ []) w1 f1 (ca + vc0) (sa + vs0)) : mm_go E Γ 3 114 [(0, mm_rf E 136), (1, .int x1), (2, .int x2)] [.int xk1, mm_rf E 136] w f ca sa := by
  refine mm_puti h fl_MD_138 (Or.inl rfl) rfl rfl rfl (is_MO hw) d_MD_close_114 ?_
  refine mm_aload_n h d_MD_close_117 0 rfl rfl ?_
  refine mm_iload_n h d_MD_close_118 1 rfl rfl ?_
  refine mm_iconst (v := 1) h d_MD_close_119 (by decide) ?_
  refine mm_iadd h d_MD_close_120 ?_
  exact mm_callV (As := [.int (x1 + 1)]) (rest := []) h m0 cv_MD_165 cm_MD_push hl0 (q0 := _) rfl rfl (is_MO hw) hu0 hz0 rfl rfl (Nat.le_of_ble_eq_true rfl) d_MD_close_121 (fun r w1 f1 hp => k1 r w1 f1 hp)
theorem s_MD_close_124 {E : mm_E} {Γ : mm_G} {lev kc ks ca sa : Nat} {w : mm_W} {f : mm_F} {Post : Option Value → mm_W → mm_F → Prop} (h : mm_ok E Γ b_MD_close 3 "PlannedTablesModel" lev kc ks) (he : mm_end E Γ none kc ks Post y_MD_close.name) (hca : ca ≤ kc) (hsa : sa ≤ ks) (hw : mm_sh w) {x1 : Int32} {x2 : Int32} (k0 : Post none w f) : mm_go E Γ 3 124 [(0, mm_rf E 136), (1, .int x1), (2, .int x2)] [] w f ca sa := by
  exact mm_vret h he d_MD_close_124 hca hsa k0
theorem d_MD_waiting_0 : decode b_MD_waiting 0 = .ok (.iconst (-1), 1) := by decide +kernel
theorem d_MD_waiting_1 : decode b_MD_waiting 1 = .ok (.istore_n 2, 1) := by decide +kernel
theorem d_MD_waiting_2 : decode b_MD_waiting 2 = .ok (.iload_n 1, 1) := by decide +kernel
theorem d_MD_waiting_3 : decode b_MD_waiting 3 = .ok (.iconst (1), 1) := by decide +kernel
theorem d_MD_waiting_4 : decode b_MD_waiting 4 = .ok (.iadd, 1) := by decide +kernel
theorem d_MD_waiting_5 : decode b_MD_waiting 5 = .ok (.istore_n 3, 1) := by decide +kernel
theorem d_MD_waiting_6 : decode b_MD_waiting 6 = .ok (.iload_n 3, 1) := by decide +kernel
theorem d_MD_waiting_7 : decode b_MD_waiting 7 = .ok (.aload_n 0, 1) := by decide +kernel
theorem d_MD_waiting_8 : decode b_MD_waiting 8 = .ok (.getfield 107, 3) := by decide +kernel
theorem d_MD_waiting_11 : decode b_MD_waiting 11 = .ok (.if_icmp .ge (34), 3) := by decide +kernel
theorem d_MD_waiting_14 : decode b_MD_waiting 14 = .ok (.aload_n 0, 1) := by decide +kernel
theorem d_MD_waiting_15 : decode b_MD_waiting 15 = .ok (.getfield 29, 3) := by decide +kernel
theorem d_MD_waiting_18 : decode b_MD_waiting 18 = .ok (.iload_n 3, 1) := by decide +kernel
theorem d_MD_waiting_19 : decode b_MD_waiting 19 = .ok (.iaload, 1) := by decide +kernel
theorem d_MD_waiting_20 : decode b_MD_waiting 20 = .ok (.iconst (5), 1) := by decide +kernel
theorem d_MD_waiting_21 : decode b_MD_waiting 21 = .ok (.if_icmp .ne (16), 3) := by decide +kernel
theorem d_MD_waiting_24 : decode b_MD_waiting 24 = .ok (.aload_n 0, 1) := by decide +kernel
theorem d_MD_waiting_25 : decode b_MD_waiting 25 = .ok (.getfield 47, 3) := by decide +kernel
theorem d_MD_waiting_28 : decode b_MD_waiting 28 = .ok (.iload_n 3, 1) := by decide +kernel
theorem d_MD_waiting_29 : decode b_MD_waiting 29 = .ok (.baload, 1) := by decide +kernel
theorem d_MD_waiting_30 : decode b_MD_waiting 30 = .ok (.ifCond .eq (7), 3) := by decide +kernel
theorem d_MD_waiting_33 : decode b_MD_waiting 33 = .ok (.iload_n 3, 1) := by decide +kernel
theorem d_MD_waiting_34 : decode b_MD_waiting 34 = .ok (.goto (4), 3) := by decide +kernel
theorem d_MD_waiting_37 : decode b_MD_waiting 37 = .ok (.iload_n 2, 1) := by decide +kernel
theorem d_MD_waiting_38 : decode b_MD_waiting 38 = .ok (.istore_n 2, 1) := by decide +kernel
theorem d_MD_waiting_39 : decode b_MD_waiting 39 = .ok (.iinc 3 (1), 3) := by decide +kernel
theorem d_MD_waiting_42 : decode b_MD_waiting 42 = .ok (.goto (-36), 3) := by decide +kernel
theorem d_MD_waiting_45 : decode b_MD_waiting 45 = .ok (.iload_n 2, 1) := by decide +kernel
theorem d_MD_waiting_46 : decode b_MD_waiting 46 = .ok (.ireturn, 1) := by decide +kernel
theorem s_MD_waiting_0 {E : mm_E} {Γ : mm_G} {lev kc ks ca sa : Nat} {w : mm_W} {f : mm_F} (h : mm_ok E Γ b_MD_waiting 4 "PlannedTablesModel" lev kc ks) (hw : mm_sh w) {x1 : Int32} (k0 : mm_go E Γ 4 6 [(0, mm_rf E 136), (1, .int x1), (2, .int (-1)), (3, .int (x1 + 1))] [] w f ca sa) : mm_go E Γ 4 0 [(0, mm_rf E 136), (1, .int x1)] [] w f ca sa := by
  refine mm_iconst (v := (-1)) h d_MD_waiting_0 (by decide) ?_
  refine mm_istore_n (lv' := [(2, .int (-1)), (0, mm_rf E 136), (1, .int x1)]) h d_MD_waiting_1 rfl (by decide) rfl ?_
  refine mm_iload_n h d_MD_waiting_2 2 rfl rfl ?_
  refine mm_iconst (v := 1) h d_MD_waiting_3 (by decide) ?_
  refine mm_iadd h d_MD_waiting_4 ?_
  refine mm_istore_n (lv' := [(3, .int (x1 + 1)), (2, .int (-1)), (0, mm_rf E 136), (1, .int x1)]) h d_MD_waiting_5 rfl (by decide) rfl ?_
  refine mm_sub [2, 3, 1, 0] rfl ?_
  exact k0
theorem s_MD_waiting_6 {E : mm_E} {Γ : mm_G} {lev kc ks ca sa : Nat} {w : mm_W} {f : mm_F} {Post : Option Value → mm_W → mm_F → Prop} (h : mm_ok E Γ b_MD_waiting 4 "PlannedTablesModel" lev kc ks) (he : mm_end E Γ (some .int) kc ks Post y_MD_waiting.name) (hca : ca ≤ kc) (hsa : sa ≤ ks) (hw : mm_sh w) {x1 : Int32} {x2 : Int32} {x3 : Int32} (k0 : (f 136 10) ≤ x3 → Post (some (.int x2)) w f) (b1 : ¬ (f 136 10) ≤ x3 → vp_in x3 40) (k2 : ¬ (f 136 10) ≤ x3 → ¬ (f 143 (x3).toNatClampNeg) = 5 → mm_go E Γ 4 37 [(0, mm_rf E 136), (1, .int x1), (2, .int x2), (3, .int x3)] [] w f ca sa) (k3 : ¬ (f 136 10) ≤ x3 → (f 143 (x3).toNatClampNeg) = 5 → (f 149 (x3).toNatClampNeg) = 0 → mm_go E Γ 4 37 [(0, mm_rf E 136), (1, .int x1), (2, .int x2), (3, .int x3)] [] w f ca sa) (k4 : ¬ (f 136 10) ≤ x3 → (f 143 (x3).toNatClampNeg) = 5 → ¬ (f 149 (x3).toNatClampNeg) = 0 → mm_go E Γ 4 38 [(0, mm_rf E 136), (1, .int x1), (2, .int x2), (3, .int x3)] [.int x3] w f ca sa) : mm_go E Γ 4 6 [(0, mm_rf E 136), (1, .int x1), (2, .int x2), (3, .int x3)] [] w f ca sa := by
  refine mm_iload_n h d_MD_waiting_6 3 rfl rfl ?_
  refine mm_aload_n h d_MD_waiting_7 0 rfl rfl ?_
  refine mm_geti h fl_MD_107 rfl (is_MO hw) d_MD_waiting_8 ?_
  refine mm_icmp_ge h d_MD_waiting_11 (tgt := 45) (by decide) (fun c1 => ?_) (fun c1 => ?_)
  · skip
    refine mm_iload_n h d_MD_waiting_45 2 rfl rfl ?_
    exact mm_iret h he rfl d_MD_waiting_46 hca hsa (k0 c1)
  · skip
    refine mm_aload_n h d_MD_waiting_14 0 rfl rfl ?_
    refine mm_getr h fl_MD_29 rfl (is_MO hw) (rf_MO_ops hw) (is_Mops hw).1.1 d_MD_waiting_15 ?_
    refine mm_iload_n h d_MD_waiting_18 3 rfl rfl ?_
    refine mm_iald h (is_Mops hw) (b1 c1) d_MD_waiting_19 ?_
    refine mm_iconst (v := 5) h d_MD_waiting_20 (by decide) ?_
    refine mm_icmp_ne h d_MD_waiting_21 (tgt := 37) (by decide) (fun c2 => ?_) (fun c2 => ?_)
    · skip
      exact (k2 c1 c2)
    · skip
      refine mm_aload_n h d_MD_waiting_24 0 rfl rfl ?_
      refine mm_getr h fl_MD_47 rfl (is_MO hw) (rf_MO_has hw) (is_Mhas hw).1.1 d_MD_waiting_25 ?_
      refine mm_iload_n h d_MD_waiting_28 3 rfl rfl ?_
      refine mm_zald h (is_Mhas hw) (b1 c1) d_MD_waiting_29 ?_
      refine mm_if_eq h d_MD_waiting_30 (tgt := 37) (by decide) (fun c3 => ?_) (fun c3 => ?_)
      · skip
        exact (k3 c1 c2 c3)
      · skip
        refine mm_iload_n h d_MD_waiting_33 3 rfl rfl ?_
        refine mm_goto h d_MD_waiting_34 (tgt := 38) (by decide) ?_
        exact (k4 c1 c2 c3)
theorem s_MD_waiting_37 {E : mm_E} {Γ : mm_G} {lev kc ks ca sa : Nat} {w : mm_W} {f : mm_F} (h : mm_ok E Γ b_MD_waiting 4 "PlannedTablesModel" lev kc ks) (hw : mm_sh w) {x1 : Int32} {x2 : Int32} {x3 : Int32} (k0 : mm_go E Γ 4 38 [(0, mm_rf E 136), (1, .int x1), (2, .int x2), (3, .int x3)] [.int x2] w f ca sa) : mm_go E Γ 4 37 [(0, mm_rf E 136), (1, .int x1), (2, .int x2), (3, .int x3)] [] w f ca sa := by
  refine mm_iload_n h d_MD_waiting_37 2 rfl rfl ?_
  exact k0
theorem s_MD_waiting_38 {E : mm_E} {Γ : mm_G} {lev kc ks ca sa : Nat} {w : mm_W} {f : mm_F} (h : mm_ok E Γ b_MD_waiting 4 "PlannedTablesModel" lev kc ks) (hw : mm_sh w) {x1 : Int32} {x2 : Int32} {x3 : Int32} {xk0 : Int32} (k0 : mm_go E Γ 4 6 [(0, mm_rf E 136), (1, .int x1), (2, .int xk0), (3, .int (x3 + 1))] [] w f ca sa) : mm_go E Γ 4 38 [(0, mm_rf E 136), (1, .int x1), (2, .int x2), (3, .int x3)] [.int xk0] w f ca sa := by
  refine mm_istore_n (lv' := [(2, .int xk0), (0, mm_rf E 136), (1, .int x1), (3, .int x3)]) h d_MD_waiting_38 rfl (by decide) rfl ?_
  refine mm_iinc (lv' := [(3, .int (x3 + 1)), (2, .int xk0), (0, mm_rf E 136), (1, .int x1)]) h d_MD_waiting_39 3 rfl (congrArg (fun z => x3 + z) lit1) (by decide) rfl ?_
  refine mm_goto h d_MD_waiting_42 (tgt := 6) (by decide) ?_
  refine mm_sub [2, 3, 1, 0] rfl ?_
  exact k0
theorem d_MD_satisfied_0 : decode b_MD_satisfied 0 = .ok (.iconst (-1), 1) := by decide +kernel
theorem d_MD_satisfied_1 : decode b_MD_satisfied 1 = .ok (.istore_n 2, 1) := by decide +kernel
theorem d_MD_satisfied_2 : decode b_MD_satisfied 2 = .ok (.iload_n 1, 1) := by decide +kernel
theorem d_MD_satisfied_3 : decode b_MD_satisfied 3 = .ok (.iconst (1), 1) := by decide +kernel
theorem d_MD_satisfied_4 : decode b_MD_satisfied 4 = .ok (.iadd, 1) := by decide +kernel
theorem d_MD_satisfied_5 : decode b_MD_satisfied 5 = .ok (.istore_n 3, 1) := by decide +kernel
theorem d_MD_satisfied_6 : decode b_MD_satisfied 6 = .ok (.iload_n 3, 1) := by decide +kernel
theorem d_MD_satisfied_7 : decode b_MD_satisfied 7 = .ok (.aload_n 0, 1) := by decide +kernel
theorem d_MD_satisfied_8 : decode b_MD_satisfied 8 = .ok (.getfield 107, 3) := by decide +kernel
theorem d_MD_satisfied_11 : decode b_MD_satisfied 11 = .ok (.if_icmp .ge (50), 3) := by decide +kernel
theorem d_MD_satisfied_14 : decode b_MD_satisfied 14 = .ok (.iload_n 3, 1) := by decide +kernel
theorem d_MD_satisfied_15 : decode b_MD_satisfied 15 = .ok (.ifCond .le (38), 3) := by decide +kernel
theorem d_MD_satisfied_18 : decode b_MD_satisfied 18 = .ok (.aload_n 0, 1) := by decide +kernel
theorem d_MD_satisfied_19 : decode b_MD_satisfied 19 = .ok (.getfield 29, 3) := by decide +kernel
theorem d_MD_satisfied_22 : decode b_MD_satisfied 22 = .ok (.iload_n 3, 1) := by decide +kernel
theorem d_MD_satisfied_23 : decode b_MD_satisfied 23 = .ok (.iaload, 1) := by decide +kernel
theorem d_MD_satisfied_24 : decode b_MD_satisfied 24 = .ok (.bipush (7), 2) := by decide +kernel
theorem d_MD_satisfied_26 : decode b_MD_satisfied 26 = .ok (.if_icmp .ne (27), 3) := by decide +kernel
theorem d_MD_satisfied_29 : decode b_MD_satisfied 29 = .ok (.aload_n 0, 1) := by decide +kernel
theorem d_MD_satisfied_30 : decode b_MD_satisfied 30 = .ok (.getfield 41, 3) := by decide +kernel
theorem d_MD_satisfied_33 : decode b_MD_satisfied 33 = .ok (.iload_n 3, 1) := by decide +kernel
theorem d_MD_satisfied_34 : decode b_MD_satisfied 34 = .ok (.iaload, 1) := by decide +kernel
theorem d_MD_satisfied_35 : decode b_MD_satisfied 35 = .ok (.aload_n 0, 1) := by decide +kernel
theorem d_MD_satisfied_36 : decode b_MD_satisfied 36 = .ok (.getfield 26, 3) := by decide +kernel
theorem d_MD_satisfied_39 : decode b_MD_satisfied 39 = .ok (.aload_n 0, 1) := by decide +kernel
theorem d_MD_satisfied_40 : decode b_MD_satisfied 40 = .ok (.getfield 32, 3) := by decide +kernel
theorem d_MD_satisfied_43 : decode b_MD_satisfied 43 = .ok (.iload_n 3, 1) := by decide +kernel
theorem d_MD_satisfied_44 : decode b_MD_satisfied 44 = .ok (.iaload, 1) := by decide +kernel
theorem d_MD_satisfied_45 : decode b_MD_satisfied 45 = .ok (.iaload, 1) := by decide +kernel
theorem d_MD_satisfied_46 : decode b_MD_satisfied 46 = .ok (.if_icmp .ne (7), 3) := by decide +kernel
theorem d_MD_satisfied_49 : decode b_MD_satisfied 49 = .ok (.iload_n 3, 1) := by decide +kernel
theorem d_MD_satisfied_50 : decode b_MD_satisfied 50 = .ok (.goto (4), 3) := by decide +kernel
theorem d_MD_satisfied_53 : decode b_MD_satisfied 53 = .ok (.iload_n 2, 1) := by decide +kernel
theorem d_MD_satisfied_54 : decode b_MD_satisfied 54 = .ok (.istore_n 2, 1) := by decide +kernel
theorem d_MD_satisfied_55 : decode b_MD_satisfied 55 = .ok (.iinc 3 (1), 3) := by decide +kernel
theorem d_MD_satisfied_58 : decode b_MD_satisfied 58 = .ok (.goto (-52), 3) := by decide +kernel
theorem d_MD_satisfied_61 : decode b_MD_satisfied 61 = .ok (.iload_n 2, 1) := by decide +kernel
theorem d_MD_satisfied_62 : decode b_MD_satisfied 62 = .ok (.ireturn, 1) := by decide +kernel
theorem s_MD_satisfied_0 {E : mm_E} {Γ : mm_G} {lev kc ks ca sa : Nat} {w : mm_W} {f : mm_F} (h : mm_ok E Γ b_MD_satisfied 4 "PlannedTablesModel" lev kc ks) (hw : mm_sh w) {x1 : Int32} (k0 : mm_go E Γ 4 6 [(0, mm_rf E 136), (1, .int x1), (2, .int (-1)), (3, .int (x1 + 1))] [] w f ca sa) : mm_go E Γ 4 0 [(0, mm_rf E 136), (1, .int x1)] [] w f ca sa := by
  refine mm_iconst (v := (-1)) h d_MD_satisfied_0 (by decide) ?_
  refine mm_istore_n (lv' := [(2, .int (-1)), (0, mm_rf E 136), (1, .int x1)]) h d_MD_satisfied_1 rfl (by decide) rfl ?_
  refine mm_iload_n h d_MD_satisfied_2 2 rfl rfl ?_
  refine mm_iconst (v := 1) h d_MD_satisfied_3 (by decide) ?_
  refine mm_iadd h d_MD_satisfied_4 ?_
  refine mm_istore_n (lv' := [(3, .int (x1 + 1)), (2, .int (-1)), (0, mm_rf E 136), (1, .int x1)]) h d_MD_satisfied_5 rfl (by decide) rfl ?_
  refine mm_sub [2, 3, 1, 0] rfl ?_
  exact k0
theorem s_MD_satisfied_6 {E : mm_E} {Γ : mm_G} {lev kc ks ca sa : Nat} {w : mm_W} {f : mm_F} {Post : Option Value → mm_W → mm_F → Prop} (h : mm_ok E Γ b_MD_satisfied 4 "PlannedTablesModel" lev kc ks) (he : mm_end E Γ (some .int) kc ks Post y_MD_satisfied.name) (hca : ca ≤ kc) (hsa : sa ≤ ks) (hw : mm_sh w) {x1 : Int32} {x2 : Int32} {x3 : Int32} (k0 : (f 136 10) ≤ x3 → Post (some (.int x2)) w f) (k1 : ¬ (f 136 10) ≤ x3 → x3 ≤ 0 → mm_go E Γ 4 53 [(0, mm_rf E 136), (1, .int x1), (2, .int x2), (3, .int x3)] [] w f ca sa) (b2 : ¬ (f 136 10) ≤ x3 → ¬ x3 ≤ 0 → vp_in x3 40) (k3 : ¬ (f 136 10) ≤ x3 → ¬ x3 ≤ 0 → ¬ (f 143 (x3).toNatClampNeg) = 7 → mm_go E Γ 4 53 [(0, mm_rf E 136), (1, .int x1), (2, .int x2), (3, .int x3)] [] w f ca sa) (b4 : ¬ (f 136 10) ≤ x3 → ¬ x3 ≤ 0 → (f 143 (x3).toNatClampNeg) = 7 → vp_in (f 144 (x3).toNatClampNeg) 40) (k5 : ¬ (f 136 10) ≤ x3 → ¬ x3 ≤ 0 → (f 143 (x3).toNatClampNeg) = 7 → ¬ (f 147 (x3).toNatClampNeg) = (f 142 ((f 144 (x3).toNatClampNeg)).toNatClampNeg) → mm_go E Γ 4 53 [(0, mm_rf E 136), (1, .int x1), (2, .int x2), (3, .int x3)] [] w f ca sa) (k6 : ¬ (f 136 10) ≤ x3 → ¬ x3 ≤ 0 → (f 143 (x3).toNatClampNeg) = 7 → (f 147 (x3).toNatClampNeg) = (f 142 ((f 144 (x3).toNatClampNeg)).toNatClampNeg) → mm_go E Γ 4 54 [(0, mm_rf E 136), (1, .int x1), (2, .int x2), (3, .int x3)] [.int x3] w f ca sa) : mm_go E Γ 4 6 [(0, mm_rf E 136), (1, .int x1), (2, .int x2), (3, .int x3)] [] w f ca sa := by
  refine mm_iload_n h d_MD_satisfied_6 3 rfl rfl ?_
  refine mm_aload_n h d_MD_satisfied_7 0 rfl rfl ?_
  refine mm_geti h fl_MD_107 rfl (is_MO hw) d_MD_satisfied_8 ?_
  refine mm_icmp_ge h d_MD_satisfied_11 (tgt := 61) (by decide) (fun c1 => ?_) (fun c1 => ?_)
  · skip
    refine mm_iload_n h d_MD_satisfied_61 2 rfl rfl ?_
    exact mm_iret h he rfl d_MD_satisfied_62 hca hsa (k0 c1)
  · skip
    refine mm_iload_n h d_MD_satisfied_14 3 rfl rfl ?_
    refine mm_if_le h d_MD_satisfied_15 (tgt := 53) (by decide) (fun c2 => ?_) (fun c2 => ?_)
    · skip
      exact (k1 c1 c2)
    · skip
      refine mm_aload_n h d_MD_satisfied_18 0 rfl rfl ?_
      refine mm_getr h fl_MD_29 rfl (is_MO hw) (rf_MO_ops hw) (is_Mops hw).1.1 d_MD_satisfied_19 ?_
      refine mm_iload_n h d_MD_satisfied_22 3 rfl rfl ?_
      refine mm_iald h (is_Mops hw) (b2 c1 c2) d_MD_satisfied_23 ?_
      refine mm_bipush (v := 7) h d_MD_satisfied_24 (by decide) ?_
      refine mm_icmp_ne h d_MD_satisfied_26 (tgt := 53) (by decide) (fun c3 => ?_) (fun c3 => ?_)
      · skip
        exact (k3 c1 c2 c3)
      · skip
        refine mm_aload_n h d_MD_satisfied_29 0 rfl rfl ?_
        refine mm_getr h fl_MD_41 rfl (is_MO hw) (rf_MO_numbers hw) (is_Mnumbers hw).1.1 d_MD_satisfied_30 ?_
        refine mm_iload_n h d_MD_satisfied_33 3 rfl rfl ?_
        refine mm_iald h (is_Mnumbers hw) (b2 c1 c2) d_MD_satisfied_34 ?_
        refine mm_aload_n h d_MD_satisfied_35 0 rfl rfl ?_
        refine mm_getr h fl_MD_26 rfl (is_MO hw) (rf_MO_plan hw) (is_Mplan hw).1.1 d_MD_satisfied_36 ?_
        refine mm_aload_n h d_MD_satisfied_39 0 rfl rfl ?_
        refine mm_getr h fl_MD_32 rfl (is_MO hw) (rf_MO_at hw) (is_Mat hw).1.1 d_MD_satisfied_40 ?_
        refine mm_iload_n h d_MD_satisfied_43 3 rfl rfl ?_
        refine mm_iald h (is_Mat hw) (b2 c1 c2) d_MD_satisfied_44 ?_
        refine mm_iald h (is_Mplan hw) (b4 c1 c2 c3) d_MD_satisfied_45 ?_
        refine mm_icmp_ne h d_MD_satisfied_46 (tgt := 53) (by decide) (fun c4 => ?_) (fun c4 => ?_)
        · skip
          exact (k5 c1 c2 c3 c4)
        · skip
          refine mm_iload_n h d_MD_satisfied_49 3 rfl rfl ?_
          refine mm_goto h d_MD_satisfied_50 (tgt := 54) (by decide) ?_
          exact (k6 c1 c2 c3 c4)
theorem s_MD_satisfied_53 {E : mm_E} {Γ : mm_G} {lev kc ks ca sa : Nat} {w : mm_W} {f : mm_F} (h : mm_ok E Γ b_MD_satisfied 4 "PlannedTablesModel" lev kc ks) (hw : mm_sh w) {x1 : Int32} {x2 : Int32} {x3 : Int32} (k0 : mm_go E Γ 4 54 [(0, mm_rf E 136), (1, .int x1), (2, .int x2), (3, .int x3)] [.int x2] w f ca sa) : mm_go E Γ 4 53 [(0, mm_rf E 136), (1, .int x1), (2, .int x2), (3, .int x3)] [] w f ca sa := by
  refine mm_iload_n h d_MD_satisfied_53 2 rfl rfl ?_
  exact k0
theorem s_MD_satisfied_54 {E : mm_E} {Γ : mm_G} {lev kc ks ca sa : Nat} {w : mm_W} {f : mm_F} (h : mm_ok E Γ b_MD_satisfied 4 "PlannedTablesModel" lev kc ks) (hw : mm_sh w) {x1 : Int32} {x2 : Int32} {x3 : Int32} {xk0 : Int32} (k0 : mm_go E Γ 4 6 [(0, mm_rf E 136), (1, .int x1), (2, .int xk0), (3, .int (x3 + 1))] [] w f ca sa) : mm_go E Γ 4 54 [(0, mm_rf E 136), (1, .int x1), (2, .int x2), (3, .int x3)] [.int xk0] w f ca sa := by
  refine mm_istore_n (lv' := [(2, .int xk0), (0, mm_rf E 136), (1, .int x1), (3, .int x3)]) h d_MD_satisfied_54 rfl (by decide) rfl ?_
  refine mm_iinc (lv' := [(3, .int (x3 + 1)), (2, .int xk0), (0, mm_rf E 136), (1, .int x1)]) h d_MD_satisfied_55 3 rfl (congrArg (fun z => x3 + z) lit1) (by decide) rfl ?_
  refine mm_goto h d_MD_satisfied_58 (tgt := 6) (by decide) ?_
  refine mm_sub [2, 3, 1, 0] rfl ?_
  exact k0
theorem d_MD_follow_0 : decode b_MD_follow 0 = .ok (.aload_n 0, 1) := by decide +kernel
theorem d_MD_follow_1 : decode b_MD_follow 1 = .ok (.iload_n 1, 1) := by decide +kernel
theorem d_MD_follow_2 : decode b_MD_follow 2 = .ok (.invokevirtual 168, 3) := by decide +kernel
theorem d_MD_follow_5 : decode b_MD_follow 5 = .ok (.istore_n 2, 1) := by decide +kernel
theorem d_MD_follow_6 : decode b_MD_follow 6 = .ok (.iload_n 2, 1) := by decide +kernel
theorem d_MD_follow_7 : decode b_MD_follow 7 = .ok (.ifCond .ge (13), 3) := by decide +kernel
theorem d_MD_follow_10 : decode b_MD_follow 10 = .ok (.aload_n 0, 1) := by decide +kernel
theorem d_MD_follow_11 : decode b_MD_follow 11 = .ok (.getfield 47, 3) := by decide +kernel
theorem d_MD_follow_14 : decode b_MD_follow 14 = .ok (.iload_n 1, 1) := by decide +kernel
theorem d_MD_follow_15 : decode b_MD_follow 15 = .ok (.iconst (0), 1) := by decide +kernel
theorem d_MD_follow_16 : decode b_MD_follow 16 = .ok (.bastore, 1) := by decide +kernel
theorem d_MD_follow_17 : decode b_MD_follow 17 = .ok (.goto (79), 3) := by decide +kernel
theorem d_MD_follow_20 : decode b_MD_follow 20 = .ok (.aload_n 0, 1) := by decide +kernel
theorem d_MD_follow_21 : decode b_MD_follow 21 = .ok (.invokevirtual 171, 3) := by decide +kernel
theorem d_MD_follow_24 : decode b_MD_follow 24 = .ok (.ifCond .eq (72), 3) := by decide +kernel
theorem d_MD_follow_27 : decode b_MD_follow 27 = .ok (.iconst (0), 1) := by decide +kernel
theorem d_MD_follow_28 : decode b_MD_follow 28 = .ok (.istore_n 3, 1) := by decide +kernel
theorem d_MD_follow_29 : decode b_MD_follow 29 = .ok (.iload_n 3, 1) := by decide +kernel
theorem d_MD_follow_30 : decode b_MD_follow 30 = .ok (.aload_n 0, 1) := by decide +kernel
theorem d_MD_follow_31 : decode b_MD_follow 31 = .ok (.getfield 35, 3) := by decide +kernel
theorem d_MD_follow_34 : decode b_MD_follow 34 = .ok (.iload_n 1, 1) := by decide +kernel
theorem d_MD_follow_35 : decode b_MD_follow 35 = .ok (.iaload, 1) := by decide +kernel
theorem d_MD_follow_36 : decode b_MD_follow 36 = .ok (.if_icmp .ge (26), 3) := by decide +kernel
theorem d_MD_follow_39 : decode b_MD_follow 39 = .ok (.aload_n 0, 1) := by decide +kernel
theorem d_MD_follow_40 : decode b_MD_follow 40 = .ok (.getfield 38, 3) := by decide +kernel
theorem d_MD_follow_43 : decode b_MD_follow 43 = .ok (.iload_n 3, 1) := by decide +kernel
theorem d_MD_follow_44 : decode b_MD_follow 44 = .ok (.aload_n 0, 1) := by decide +kernel
theorem d_MD_follow_45 : decode b_MD_follow 45 = .ok (.getfield 50, 3) := by decide +kernel
theorem d_MD_follow_48 : decode b_MD_follow 48 = .ok (.bipush (8), 2) := by decide +kernel
theorem d_MD_follow_50 : decode b_MD_follow 50 = .ok (.iload_n 1, 1) := by decide +kernel
theorem d_MD_follow_51 : decode b_MD_follow 51 = .ok (.imul, 1) := by decide +kernel
theorem d_MD_follow_52 : decode b_MD_follow 52 = .ok (.iload_n 3, 1) := by decide +kernel
theorem d_MD_follow_53 : decode b_MD_follow 53 = .ok (.iadd, 1) := by decide +kernel
theorem d_MD_follow_54 : decode b_MD_follow 54 = .ok (.iaload, 1) := by decide +kernel
theorem d_MD_follow_55 : decode b_MD_follow 55 = .ok (.iastore, 1) := by decide +kernel
theorem d_MD_follow_56 : decode b_MD_follow 56 = .ok (.iinc 3 (1), 3) := by decide +kernel
theorem d_MD_follow_59 : decode b_MD_follow 59 = .ok (.goto (-30), 3) := by decide +kernel
theorem d_MD_follow_62 : decode b_MD_follow 62 = .ok (.aload_n 0, 1) := by decide +kernel
theorem d_MD_follow_63 : decode b_MD_follow 63 = .ok (.iload_n 2, 1) := by decide +kernel
theorem d_MD_follow_64 : decode b_MD_follow 64 = .ok (.aload_n 0, 1) := by decide +kernel
theorem d_MD_follow_65 : decode b_MD_follow 65 = .ok (.getfield 35, 3) := by decide +kernel
theorem d_MD_follow_68 : decode b_MD_follow 68 = .ok (.iload_n 1, 1) := by decide +kernel
theorem d_MD_follow_69 : decode b_MD_follow 69 = .ok (.iaload, 1) := by decide +kernel
theorem d_MD_follow_70 : decode b_MD_follow 70 = .ok (.aload_n 0, 1) := by decide +kernel
theorem d_MD_follow_71 : decode b_MD_follow 71 = .ok (.getfield 7, 3) := by decide +kernel
theorem d_MD_follow_74 : decode b_MD_follow 74 = .ok (.aload_n 0, 1) := by decide +kernel
theorem d_MD_follow_75 : decode b_MD_follow 75 = .ok (.getfield 26, 3) := by decide +kernel
theorem d_MD_follow_78 : decode b_MD_follow 78 = .ok (.aload_n 0, 1) := by decide +kernel
theorem d_MD_follow_79 : decode b_MD_follow 79 = .ok (.getfield 32, 3) := by decide +kernel
theorem d_MD_follow_82 : decode b_MD_follow 82 = .ok (.iload_n 1, 1) := by decide +kernel
theorem d_MD_follow_83 : decode b_MD_follow 83 = .ok (.iaload, 1) := by decide +kernel
theorem d_MD_follow_84 : decode b_MD_follow 84 = .ok (.iaload, 1) := by decide +kernel
theorem d_MD_follow_85 : decode b_MD_follow 85 = .ok (.iaload, 1) := by decide +kernel
theorem d_MD_follow_86 : decode b_MD_follow 86 = .ok (.invokevirtual 175, 3) := by decide +kernel
theorem d_MD_follow_89 : decode b_MD_follow 89 = .ok (.aload_n 0, 1) := by decide +kernel
theorem d_MD_follow_90 : decode b_MD_follow 90 = .ok (.iload_n 1, 1) := by decide +kernel
theorem d_MD_follow_91 : decode b_MD_follow 91 = .ok (.iconst (1), 1) := by decide +kernel
theorem d_MD_follow_92 : decode b_MD_follow 92 = .ok (.iadd, 1) := by decide +kernel
theorem d_MD_follow_93 : decode b_MD_follow 93 = .ok (.invokevirtual 165, 3) := by decide +kernel
theorem d_MD_follow_96 : decode b_MD_follow 96 = .ok (.return_, 1) := by decide +kernel
theorem s_MD_follow_0 {E : mm_E} {Γ : mm_G} {lev kc ks ca sa : Nat} {w : mm_W} {f : mm_F} (h : mm_ok E Γ b_MD_follow 4 "PlannedTablesModel" lev kc ks) (hw : mm_sh w) {x1 : Int32} {vl0 vc0 vs0 : Nat} {P0 : Option Value → mm_W → mm_F → Prop} (hl0 : vl0 < lev) (hu0 : ca + vc0 ≤ kc) (hz0 : sa + vs0 ≤ ks) (m0 : mm_C E y_MD_nextOfStep b_MD_nextOfStep 9 (some .int) vl0 vc0 vs0 [mm_rf E 136, .int x1] w f P0) (k1 : ∀ (r : Option Value) (w1 : mm_W) (f1 : mm_F), P0 r w1 f1 → mm_go E Γ 4 5 [(0, mm_rf E 136), (1, .int x1)] (r.toList ++ []) w1 f1 (ca + vc0) (sa + vs0)) : mm_go E Γ 4 0 [(0, mm_rf E 136), (1, .int x1)] [] w f ca sa := by
  refine mm_aload_n h d_MD_follow_0 0 rfl rfl ?_
  refine mm_iload_n h d_MD_follow_1 1 rfl rfl ?_
  exact mm_callV (As := [.int x1]) (rest := []) h m0 cv_MD_168 cm_MD_nextOfStep hl0 (q0 := _) rfl rfl (is_MO hw) hu0 hz0 rfl rfl (Nat.le_of_ble_eq_true rfl) d_MD_follow_2 (fun r w1 f1 hp => k1 r w1 f1 hp)
theorem s_MD_follow_5 {E : mm_E} {Γ : mm_G} {lev kc ks ca sa : Nat} {w : mm_W} {f : mm_F} (h : mm_ok E Γ b_MD_follow 4 "PlannedTablesModel" lev kc ks) (hw : mm_sh w) {x1 : Int32} {xk0 : Int32} {vl0 vc0 vs0 : Nat} {P0 : Option Value → mm_W → mm_F → Prop} (hl0 : vl0 < lev) (hu0 : ca + vc0 ≤ kc) (hz0 : sa + vs0 ≤ ks) (m0 : 0 ≤ xk0 → mm_C E y_MD_visit b_MD_visit 1 (some .boolean) vl0 vc0 vs0 [mm_rf E 136] w f P0) (k1 : 0 ≤ xk0 → ∀ (r : Option Value) (w1 : mm_W) (f1 : mm_F), P0 r w1 f1 → mm_go E Γ 4 24 [(0, mm_rf E 136), (1, .int x1), (2, .int xk0)] (r.toList ++ []) w1 f1 (ca + vc0) (sa + vs0)) (b2 : ¬ 0 ≤ xk0 → vp_in x1 40) (k3 : ¬ 0 ≤ xk0 → mm_go E Γ 4 96 [(0, mm_rf E 136), (1, .int x1), (2, .int xk0)] [] w (mm_up f 149 (x1).toNatClampNeg 0) ca sa) : mm_go E Γ 4 5 [(0, mm_rf E 136), (1, .int x1)] [.int xk0] w f ca sa := by
  refine mm_istore_n (lv' := [(2, .int xk0), (0, mm_rf E 136), (1, .int x1)]) h d_MD_follow_5 rfl (by decide) rfl ?_
  refine mm_iload_n h d_MD_follow_6 0 rfl rfl ?_
  refine mm_if_ge h d_MD_follow_7 (tgt := 20) (by decide) (fun c1 => ?_) (fun c1 => ?_)
  · skip
    refine mm_aload_n h d_MD_follow_20 1 rfl rfl ?_
    exact mm_callV (As := []) (rest := []) h (m0 c1) cv_MD_171 cm_MD_visit hl0 (q0 := _) rfl rfl (is_MO hw) hu0 hz0 rfl rfl (Nat.le_of_ble_eq_true rfl) d_MD_follow_21 (fun r w1 f1 hp => mm_sub [1, 2, 0] rfl ((k1 c1) r w1 f1 hp))
  · skip
    refine mm_aload_n h d_MD_follow_10 1 rfl rfl ?_
    refine mm_getr h fl_MD_47 rfl (is_MO hw) (rf_MO_has hw) (is_Mhas hw).1.1 d_MD_follow_11 ?_
    refine mm_iload_n h d_MD_follow_14 2 rfl rfl ?_
    refine mm_iconst (v := 0) h d_MD_follow_15 (by decide) ?_
    refine mm_zast h rfl (is_Mhas hw) (b2 c1) d_MD_follow_16 ?_
    refine mm_goto h d_MD_follow_17 (tgt := 96) (by decide) ?_
    refine mm_sub [1, 2, 0] rfl ?_
    exact (k3 c1)
theorem s_MD_follow_24 {E : mm_E} {Γ : mm_G} {lev kc ks ca sa : Nat} {w : mm_W} {f : mm_F} (h : mm_ok E Γ b_MD_follow 4 "PlannedTablesModel" lev kc ks) (hw : mm_sh w) {x1 : Int32} {x2 : Int32} {xk0 : Int32} (k0 : xk0 = 0 → mm_go E Γ 4 96 [(0, mm_rf E 136), (1, .int x1), (2, .int x2)] [] w f ca sa) (k1 : ¬ xk0 = 0 → mm_go E Γ 4 29 [(0, mm_rf E 136), (1, .int x1), (2, .int x2), (3, .int 0)] [] w f ca sa) : mm_go E Γ 4 24 [(0, mm_rf E 136), (1, .int x1), (2, .int x2)] [.int xk0] w f ca sa := by
  refine mm_if_eq h d_MD_follow_24 (tgt := 96) (by decide) (fun c1 => ?_) (fun c1 => ?_)
  · skip
    exact (k0 c1)
  · skip
    refine mm_iconst (v := 0) h d_MD_follow_27 (by decide) ?_
    refine mm_istore_n (lv' := [(3, .int 0), (0, mm_rf E 136), (1, .int x1), (2, .int x2)]) h d_MD_follow_28 rfl (by decide) rfl ?_
    refine mm_sub [1, 2, 3, 0] rfl ?_
    exact (k1 c1)
theorem s_MD_follow_29 {E : mm_E} {Γ : mm_G} {lev kc ks ca sa : Nat} {w : mm_W} {f : mm_F} (h : mm_ok E Γ b_MD_follow 4 "PlannedTablesModel" lev kc ks) (hw : mm_sh w) {x1 : Int32} {x2 : Int32} {x3 : Int32} (b0 : vp_in x1 40) (b1 : (f 145 (x1).toNatClampNeg) ≤ x3 → vp_in (f 144 (x1).toNatClampNeg) 40) (b2 : (f 145 (x1).toNatClampNeg) ≤ x3 → vp_in (f 142 ((f 144 (x1).toNatClampNeg)).toNatClampNeg) 4) {vl0 vc0 vs0 : Nat} {P0 : Option Value → mm_W → mm_F → Prop} (hl0 : vl0 < lev) (hu0 : ca + vc0 ≤ kc) (hz0 : sa + vs0 ≤ ks) (m3 : (f 145 (x1).toNatClampNeg) ≤ x3 → mm_C E y_MD_load b_MD_load 5 none vl0 vc0 vs0 [mm_rf E 136, .int x2, .int (f 145 (x1).toNatClampNeg), .int (f 137 ((f 142 ((f 144 (x1).toNatClampNeg)).toNatClampNeg)).toNatClampNeg)] w f P0) (k4 : (f 145 (x1).toNatClampNeg) ≤ x3 → ∀ (r : Option Value) (w1 : mm_W) (f1 : mm_F), P0 r w1 f1 → mm_go E Γ 4 89 [(0, mm_rf E 136), (1, .int x1), (2, .int x2), (3, .int x3)] (r.toList ++ []) w1 f1 (ca + vc0) (sa + vs0)) (b5 : ¬ (f 145 (x1).toNatClampNeg) ≤ x3 → vp_in ((8 * x1) + x3) 320) (b6 : ¬ (f 145 (x1).toNatClampNeg) ≤ x3 → vp_in x3 8) (k7 : ¬ (f 145 (x1).toNatClampNeg) ≤ x3 → mm_go E Γ 4 29 [(0, mm_rf E 136), (1, .int x1), (2, .int x2), (3, .int (x3 + 1))] [] w (mm_up f 146 (x3).toNatClampNeg (f 150 (((8 * x1) + x3)).toNatClampNeg)) ca sa) : mm_go E Γ 4 29 [(0, mm_rf E 136), (1, .int x1), (2, .int x2), (3, .int x3)] [] w f ca sa := by
  refine mm_iload_n h d_MD_follow_29 3 rfl rfl ?_
  refine mm_aload_n h d_MD_follow_30 0 rfl rfl ?_
  refine mm_getr h fl_MD_35 rfl (is_MO hw) (rf_MO_wide hw) (is_Mwide hw).1.1 d_MD_follow_31 ?_
  refine mm_iload_n h d_MD_follow_34 1 rfl rfl ?_
  refine mm_iald h (is_Mwide hw) b0 d_MD_follow_35 ?_
  refine mm_icmp_ge h d_MD_follow_36 (tgt := 62) (by decide) (fun c1 => ?_) (fun c1 => ?_)
  · skip
    refine mm_aload_n h d_MD_follow_62 0 rfl rfl ?_
    refine mm_iload_n h d_MD_follow_63 2 rfl rfl ?_
    refine mm_aload_n h d_MD_follow_64 0 rfl rfl ?_
    refine mm_getr h fl_MD_35 rfl (is_MO hw) (rf_MO_wide hw) (is_Mwide hw).1.1 d_MD_follow_65 ?_
    refine mm_iload_n h d_MD_follow_68 1 rfl rfl ?_
    refine mm_iald h (is_Mwide hw) b0 d_MD_follow_69 ?_
    refine mm_aload_n h d_MD_follow_70 0 rfl rfl ?_
    refine mm_getr h fl_MD_7 rfl (is_MO hw) (rf_MO_columns hw) (is_Mcolumns hw).1.1 d_MD_follow_71 ?_
    refine mm_aload_n h d_MD_follow_74 0 rfl rfl ?_
    refine mm_getr h fl_MD_26 rfl (is_MO hw) (rf_MO_plan hw) (is_Mplan hw).1.1 d_MD_follow_75 ?_
    refine mm_aload_n h d_MD_follow_78 0 rfl rfl ?_
    refine mm_getr h fl_MD_32 rfl (is_MO hw) (rf_MO_at hw) (is_Mat hw).1.1 d_MD_follow_79 ?_
    refine mm_iload_n h d_MD_follow_82 1 rfl rfl ?_
    refine mm_iald h (is_Mat hw) b0 d_MD_follow_83 ?_
    refine mm_iald h (is_Mplan hw) (b1 c1) d_MD_follow_84 ?_
    refine mm_iald h (is_Mcolumns hw) (b2 c1) d_MD_follow_85 ?_
    exact mm_callV (As := [.int x2, .int (f 145 (x1).toNatClampNeg), .int (f 137 ((f 142 ((f 144 (x1).toNatClampNeg)).toNatClampNeg)).toNatClampNeg)]) (rest := []) h (m3 c1) cv_MD_175 cm_MD_load hl0 (q0 := _) rfl rfl (is_MO hw) hu0 hz0 rfl rfl (Nat.le_of_ble_eq_true rfl) d_MD_follow_86 (fun r w1 f1 hp => (k4 c1) r w1 f1 hp)
  · skip
    refine mm_aload_n h d_MD_follow_39 0 rfl rfl ?_
    refine mm_getr h fl_MD_38 rfl (is_MO hw) (rf_MO_row hw) (is_Mrow hw).1.1 d_MD_follow_40 ?_
    refine mm_iload_n h d_MD_follow_43 3 rfl rfl ?_
    refine mm_aload_n h d_MD_follow_44 0 rfl rfl ?_
    refine mm_getr h fl_MD_50 rfl (is_MO hw) (rf_MO_lefts hw) (is_Mlefts hw).1.1 d_MD_follow_45 ?_
    refine mm_bipush (v := 8) h d_MD_follow_48 (by decide) ?_
    refine mm_iload_n h d_MD_follow_50 1 rfl rfl ?_
    refine mm_imul h d_MD_follow_51 ?_
    refine mm_iload_n h d_MD_follow_52 3 rfl rfl ?_
    refine mm_iadd h d_MD_follow_53 ?_
    refine mm_iald h (is_Mlefts hw) (b5 c1) d_MD_follow_54 ?_
    refine mm_iast h (is_Mrow hw) (b6 c1) d_MD_follow_55 ?_
    refine mm_iinc (lv' := [(3, .int (x3 + 1)), (0, mm_rf E 136), (1, .int x1), (2, .int x2)]) h d_MD_follow_56 3 rfl (congrArg (fun z => x3 + z) lit1) (by decide) rfl ?_
    refine mm_goto h d_MD_follow_59 (tgt := 29) (by decide) ?_
    refine mm_sub [1, 2, 3, 0] rfl ?_
    exact (k7 c1)
theorem s_MD_follow_89 {E : mm_E} {Γ : mm_G} {lev kc ks ca sa : Nat} {w : mm_W} {f : mm_F} (h : mm_ok E Γ b_MD_follow 4 "PlannedTablesModel" lev kc ks) (hw : mm_sh w) {x1 : Int32} {x2 : Int32} {x3 : Int32} {vl0 vc0 vs0 : Nat} {P0 : Option Value → mm_W → mm_F → Prop} (hl0 : vl0 < lev) (hu0 : ca + vc0 ≤ kc) (hz0 : sa + vs0 ≤ ks) (m0 : mm_C E y_MD_push b_MD_push 4 none vl0 vc0 vs0 [mm_rf E 136, .int (x1 + 1)] w f P0) (k1 : ∀ (r : Option Value) (w1 : mm_W) (f1 : mm_F), P0 r w1 f1 → mm_go E Γ 4 96 [(0, mm_rf E 136), (1, .int x1), (2, .int x2)] (r.toList ++ []) w1 f1 (ca + vc0) (sa + vs0)) : mm_go E Γ 4 89 [(0, mm_rf E 136), (1, .int x1), (2, .int x2), (3, .int x3)] [] w f ca sa := by
  refine mm_aload_n h d_MD_follow_89 0 rfl rfl ?_
  refine mm_iload_n h d_MD_follow_90 1 rfl rfl ?_
  refine mm_iconst (v := 1) h d_MD_follow_91 (by decide) ?_
  refine mm_iadd h d_MD_follow_92 ?_
  exact mm_callV (As := [.int (x1 + 1)]) (rest := []) h m0 cv_MD_165 cm_MD_push hl0 (q0 := _) rfl rfl (is_MO hw) hu0 hz0 rfl rfl (Nat.le_of_ble_eq_true rfl) d_MD_follow_93 (fun r w1 f1 hp => mm_sub [0, 1, 2] rfl (k1 r w1 f1 hp))
theorem s_MD_follow_96 {E : mm_E} {Γ : mm_G} {lev kc ks ca sa : Nat} {w : mm_W} {f : mm_F} {Post : Option Value → mm_W → mm_F → Prop} (h : mm_ok E Γ b_MD_follow 4 "PlannedTablesModel" lev kc ks) (he : mm_end E Γ none kc ks Post y_MD_follow.name) (hca : ca ≤ kc) (hsa : sa ≤ ks) (hw : mm_sh w) {x1 : Int32} {x2 : Int32} (k0 : Post none w f) : mm_go E Γ 4 96 [(0, mm_rf E 136), (1, .int x1), (2, .int x2)] [] w f ca sa := by
  exact mm_vret h he d_MD_follow_96 hca hsa k0
theorem d_MD_begin_0 : decode b_MD_begin 0 = .ok (.aload_n 0, 1) := by decide +kernel
theorem d_MD_begin_1 : decode b_MD_begin 1 = .ok (.invokevirtual 179, 3) := by decide +kernel
theorem d_MD_begin_4 : decode b_MD_begin 4 = .ok (.istore_n 1, 1) := by decide +kernel
theorem d_MD_begin_5 : decode b_MD_begin 5 = .ok (.iload_n 1, 1) := by decide +kernel
theorem d_MD_begin_6 : decode b_MD_begin 6 = .ok (.ifCond .lt (32), 3) := by decide +kernel
theorem d_MD_begin_9 : decode b_MD_begin 9 = .ok (.aload_n 0, 1) := by decide +kernel
theorem d_MD_begin_10 : decode b_MD_begin 10 = .ok (.invokevirtual 171, 3) := by decide +kernel
theorem d_MD_begin_13 : decode b_MD_begin 13 = .ok (.ifCond .eq (25), 3) := by decide +kernel
theorem d_MD_begin_16 : decode b_MD_begin 16 = .ok (.aload_n 0, 1) := by decide +kernel
theorem d_MD_begin_17 : decode b_MD_begin 17 = .ok (.iload_n 1, 1) := by decide +kernel
theorem d_MD_begin_18 : decode b_MD_begin 18 = .ok (.iconst (0), 1) := by decide +kernel
theorem d_MD_begin_19 : decode b_MD_begin 19 = .ok (.aload_n 0, 1) := by decide +kernel
theorem d_MD_begin_20 : decode b_MD_begin 20 = .ok (.getfield 7, 3) := by decide +kernel
theorem d_MD_begin_23 : decode b_MD_begin 23 = .ok (.aload_n 0, 1) := by decide +kernel
theorem d_MD_begin_24 : decode b_MD_begin 24 = .ok (.getfield 26, 3) := by decide +kernel
theorem d_MD_begin_27 : decode b_MD_begin 27 = .ok (.iconst (1), 1) := by decide +kernel
theorem d_MD_begin_28 : decode b_MD_begin 28 = .ok (.iaload, 1) := by decide +kernel
theorem d_MD_begin_29 : decode b_MD_begin 29 = .ok (.iaload, 1) := by decide +kernel
theorem d_MD_begin_30 : decode b_MD_begin 30 = .ok (.invokevirtual 175, 3) := by decide +kernel
theorem d_MD_begin_33 : decode b_MD_begin 33 = .ok (.aload_n 0, 1) := by decide +kernel
theorem d_MD_begin_34 : decode b_MD_begin 34 = .ok (.iconst (1), 1) := by decide +kernel
theorem d_MD_begin_35 : decode b_MD_begin 35 = .ok (.invokevirtual 165, 3) := by decide +kernel
theorem d_MD_begin_38 : decode b_MD_begin 38 = .ok (.iload_n 1, 1) := by decide +kernel
theorem d_MD_begin_39 : decode b_MD_begin 39 = .ok (.ifCond .lt (7), 3) := by decide +kernel
theorem d_MD_begin_42 : decode b_MD_begin 42 = .ok (.iconst (1), 1) := by decide +kernel
theorem d_MD_begin_43 : decode b_MD_begin 43 = .ok (.goto (4), 3) := by decide +kernel
theorem d_MD_begin_46 : decode b_MD_begin 46 = .ok (.iconst (0), 1) := by decide +kernel
theorem d_MD_begin_47 : decode b_MD_begin 47 = .ok (.ireturn, 1) := by decide +kernel
theorem s_MD_begin_0 {E : mm_E} {Γ : mm_G} {lev kc ks ca sa : Nat} {w : mm_W} {f : mm_F} (h : mm_ok E Γ b_MD_begin 2 "PlannedTablesModel" lev kc ks) (hw : mm_sh w)  {vl0 vc0 vs0 : Nat} {P0 : Option Value → mm_W → mm_F → Prop} (hl0 : vl0 < lev) (hu0 : ca + vc0 ≤ kc) (hz0 : sa + vs0 ≤ ks) (m0 : mm_C E y_MD_nextOfSource b_MD_nextOfSource 10 (some .int) vl0 vc0 vs0 [mm_rf E 136] w f P0) (k1 : ∀ (r : Option Value) (w1 : mm_W) (f1 : mm_F), P0 r w1 f1 → mm_go E Γ 2 4 [(0, mm_rf E 136)] (r.toList ++ []) w1 f1 (ca + vc0) (sa + vs0)) : mm_go E Γ 2 0 [(0, mm_rf E 136)] [] w f ca sa := by
  refine mm_aload_n h d_MD_begin_0 0 rfl rfl ?_
  exact mm_callV (As := []) (rest := []) h m0 cv_MD_179 cm_MD_nextOfSource hl0 (q0 := _) rfl rfl (is_MO hw) hu0 hz0 rfl rfl (Nat.le_of_ble_eq_true rfl) d_MD_begin_1 (fun r w1 f1 hp => k1 r w1 f1 hp)
theorem s_MD_begin_4 {E : mm_E} {Γ : mm_G} {lev kc ks ca sa : Nat} {w : mm_W} {f : mm_F} (h : mm_ok E Γ b_MD_begin 2 "PlannedTablesModel" lev kc ks) (hw : mm_sh w) {xk0 : Int32} (k0 : xk0 < 0 → mm_go E Γ 2 38 [(0, mm_rf E 136), (1, .int xk0)] [] w f ca sa) {vl0 vc0 vs0 : Nat} {P0 : Option Value → mm_W → mm_F → Prop} (hl0 : vl0 < lev) (hu0 : ca + vc0 ≤ kc) (hz0 : sa + vs0 ≤ ks) (m1 : ¬ xk0 < 0 → mm_C E y_MD_visit b_MD_visit 1 (some .boolean) vl0 vc0 vs0 [mm_rf E 136] w f P0) (k2 : ¬ xk0 < 0 → ∀ (r : Option Value) (w1 : mm_W) (f1 : mm_F), P0 r w1 f1 → mm_go E Γ 2 13 [(0, mm_rf E 136), (1, .int xk0)] (r.toList ++ []) w1 f1 (ca + vc0) (sa + vs0)) : mm_go E Γ 2 4 [(0, mm_rf E 136)] [.int xk0] w f ca sa := by
  refine mm_istore_n (lv' := [(1, .int xk0), (0, mm_rf E 136)]) h d_MD_begin_4 rfl (by decide) rfl ?_
  refine mm_iload_n h d_MD_begin_5 0 rfl rfl ?_
  refine mm_if_lt h d_MD_begin_6 (tgt := 38) (by decide) (fun c1 => ?_) (fun c1 => ?_)
  · skip
    refine mm_sub [1, 0] rfl ?_
    exact (k0 c1)
  · skip
    refine mm_aload_n h d_MD_begin_9 1 rfl rfl ?_
    exact mm_callV (As := []) (rest := []) h (m1 c1) cv_MD_171 cm_MD_visit hl0 (q0 := _) rfl rfl (is_MO hw) hu0 hz0 rfl rfl (Nat.le_of_ble_eq_true rfl) d_MD_begin_10 (fun r w1 f1 hp => mm_sub [1, 0] rfl ((k2 c1) r w1 f1 hp))
theorem s_MD_begin_13 {E : mm_E} {Γ : mm_G} {lev kc ks ca sa : Nat} {w : mm_W} {f : mm_F} (h : mm_ok E Γ b_MD_begin 2 "PlannedTablesModel" lev kc ks) (hw : mm_sh w) {x1 : Int32} {xk0 : Int32} (k0 : xk0 = 0 → mm_go E Γ 2 38 [(0, mm_rf E 136), (1, .int x1)] [] w f ca sa) (b1 : ¬ xk0 = 0 → vp_in (f 142 1) 4) {vl0 vc0 vs0 : Nat} {P0 : Option Value → mm_W → mm_F → Prop} (hl0 : vl0 < lev) (hu0 : ca + vc0 ≤ kc) (hz0 : sa + vs0 ≤ ks) (m2 : ¬ xk0 = 0 → mm_C E y_MD_load b_MD_load 5 none vl0 vc0 vs0 [mm_rf E 136, .int x1, .int 0, .int (f 137 ((f 142 1)).toNatClampNeg)] w f P0) (k3 : ¬ xk0 = 0 → ∀ (r : Option Value) (w1 : mm_W) (f1 : mm_F), P0 r w1 f1 → mm_go E Γ 2 33 [(0, mm_rf E 136), (1, .int x1)] (r.toList ++ []) w1 f1 (ca + vc0) (sa + vs0)) : mm_go E Γ 2 13 [(0, mm_rf E 136), (1, .int x1)] [.int xk0] w f ca sa := by
  refine mm_if_eq h d_MD_begin_13 (tgt := 38) (by decide) (fun c1 => ?_) (fun c1 => ?_)
  · skip
    exact (k0 c1)
  · skip
    refine mm_aload_n h d_MD_begin_16 0 rfl rfl ?_
    refine mm_iload_n h d_MD_begin_17 1 rfl rfl ?_
    refine mm_iconst (v := 0) h d_MD_begin_18 (by decide) ?_
    refine mm_aload_n h d_MD_begin_19 0 rfl rfl ?_
    refine mm_getr h fl_MD_7 rfl (is_MO hw) (rf_MO_columns hw) (is_Mcolumns hw).1.1 d_MD_begin_20 ?_
    refine mm_aload_n h d_MD_begin_23 0 rfl rfl ?_
    refine mm_getr h fl_MD_26 rfl (is_MO hw) (rf_MO_plan hw) (is_Mplan hw).1.1 d_MD_begin_24 ?_
    refine mm_iconst (v := 1) h d_MD_begin_27 (by decide) ?_
    refine mm_iald h (is_Mplan hw) (by unfold vp_in; decide) d_MD_begin_28 ?_
    refine mm_iald h (is_Mcolumns hw) (b1 c1) d_MD_begin_29 ?_
    exact mm_callV (As := [.int x1, .int 0, .int (f 137 ((f 142 1)).toNatClampNeg)]) (rest := []) h (m2 c1) cv_MD_175 cm_MD_load hl0 (q0 := _) rfl rfl (is_MO hw) hu0 hz0 rfl rfl (Nat.le_of_ble_eq_true rfl) d_MD_begin_30 (fun r w1 f1 hp => (k3 c1) r w1 f1 hp)
theorem s_MD_begin_33 {E : mm_E} {Γ : mm_G} {lev kc ks ca sa : Nat} {w : mm_W} {f : mm_F} (h : mm_ok E Γ b_MD_begin 2 "PlannedTablesModel" lev kc ks) (hw : mm_sh w) {x1 : Int32} {vl0 vc0 vs0 : Nat} {P0 : Option Value → mm_W → mm_F → Prop} (hl0 : vl0 < lev) (hu0 : ca + vc0 ≤ kc) (hz0 : sa + vs0 ≤ ks) (m0 : mm_C E y_MD_push b_MD_push 4 none vl0 vc0 vs0 [mm_rf E 136, .int 1] w f P0) (k1 : ∀ (r : Option Value) (w1 : mm_W) (f1 : mm_F), P0 r w1 f1 → mm_go E Γ 2 38 [(0, mm_rf E 136), (1, .int x1)] (r.toList ++ []) w1 f1 (ca + vc0) (sa + vs0)) : mm_go E Γ 2 33 [(0, mm_rf E 136), (1, .int x1)] [] w f ca sa := by
  refine mm_aload_n h d_MD_begin_33 0 rfl rfl ?_
  refine mm_iconst (v := 1) h d_MD_begin_34 (by decide) ?_
  exact mm_callV (As := [.int 1]) (rest := []) h m0 cv_MD_165 cm_MD_push hl0 (q0 := _) rfl rfl (is_MO hw) hu0 hz0 rfl rfl (Nat.le_of_ble_eq_true rfl) d_MD_begin_35 (fun r w1 f1 hp => k1 r w1 f1 hp)
theorem s_MD_begin_38 {E : mm_E} {Γ : mm_G} {lev kc ks ca sa : Nat} {w : mm_W} {f : mm_F} (h : mm_ok E Γ b_MD_begin 2 "PlannedTablesModel" lev kc ks) (hw : mm_sh w) {x1 : Int32} (k0 : x1 < 0 → mm_go E Γ 2 47 [(0, mm_rf E 136), (1, .int x1)] [.int 0] w f ca sa) (k1 : ¬ x1 < 0 → mm_go E Γ 2 47 [(0, mm_rf E 136), (1, .int x1)] [.int 1] w f ca sa) : mm_go E Γ 2 38 [(0, mm_rf E 136), (1, .int x1)] [] w f ca sa := by
  refine mm_iload_n h d_MD_begin_38 1 rfl rfl ?_
  refine mm_if_lt h d_MD_begin_39 (tgt := 46) (by decide) (fun c1 => ?_) (fun c1 => ?_)
  · skip
    refine mm_iconst (v := 0) h d_MD_begin_46 (by decide) ?_
    exact (k0 c1)
  · skip
    refine mm_iconst (v := 1) h d_MD_begin_42 (by decide) ?_
    refine mm_goto h d_MD_begin_43 (tgt := 47) (by decide) ?_
    exact (k1 c1)
theorem s_MD_begin_47 {E : mm_E} {Γ : mm_G} {lev kc ks ca sa : Nat} {w : mm_W} {f : mm_F} {Post : Option Value → mm_W → mm_F → Prop} (h : mm_ok E Γ b_MD_begin 2 "PlannedTablesModel" lev kc ks) (he : mm_end E Γ (some .boolean) kc ks Post y_MD_begin.name) (hca : ca ≤ kc) (hsa : sa ≤ ks) (hw : mm_sh w) {x1 : Int32} {xk0 : Int32} (k0 : Post (some (.int xk0)) w f) (n1 : narrow .boolean (.int xk0) = .int xk0) : mm_go E Γ 2 47 [(0, mm_rf E 136), (1, .int x1)] [.int xk0] w f ca sa := by
  exact mm_iret h he n1 d_MD_begin_47 hca hsa k0
theorem d_MD_ready_0 : decode b_MD_ready 0 = .ok (.aload_n 0, 1) := by decide +kernel
theorem d_MD_ready_1 : decode b_MD_ready 1 = .ok (.iload_n 1, 1) := by decide +kernel
theorem d_MD_ready_2 : decode b_MD_ready 2 = .ok (.putfield 122, 3) := by decide +kernel
theorem d_MD_ready_5 : decode b_MD_ready 5 = .ok (.aload_n 0, 1) := by decide +kernel
theorem d_MD_ready_6 : decode b_MD_ready 6 = .ok (.iconst (0), 1) := by decide +kernel
theorem d_MD_ready_7 : decode b_MD_ready 7 = .ok (.putfield 119, 3) := by decide +kernel
theorem d_MD_ready_10 : decode b_MD_ready 10 = .ok (.aload_n 0, 1) := by decide +kernel
theorem d_MD_ready_11 : decode b_MD_ready 11 = .ok (.iconst (0), 1) := by decide +kernel
theorem d_MD_ready_12 : decode b_MD_ready 12 = .ok (.putfield 125, 3) := by decide +kernel
theorem d_MD_ready_15 : decode b_MD_ready 15 = .ok (.aload_n 0, 1) := by decide +kernel
theorem d_MD_ready_16 : decode b_MD_ready 16 = .ok (.iconst (0), 1) := by decide +kernel
theorem d_MD_ready_17 : decode b_MD_ready 17 = .ok (.putfield 162, 3) := by decide +kernel
theorem d_MD_ready_20 : decode b_MD_ready 20 = .ok (.aload_n 0, 1) := by decide +kernel
theorem d_MD_ready_21 : decode b_MD_ready 21 = .ok (.iconst (0), 1) := by decide +kernel
theorem d_MD_ready_22 : decode b_MD_ready 22 = .ok (.putfield 129, 3) := by decide +kernel
theorem d_MD_ready_25 : decode b_MD_ready 25 = .ok (.aload_n 0, 1) := by decide +kernel
theorem d_MD_ready_26 : decode b_MD_ready 26 = .ok (.iconst (0), 1) := by decide +kernel
theorem d_MD_ready_27 : decode b_MD_ready 27 = .ok (.putfield 159, 3) := by decide +kernel
theorem d_MD_ready_30 : decode b_MD_ready 30 = .ok (.iconst (0), 1) := by decide +kernel
theorem d_MD_ready_31 : decode b_MD_ready 31 = .ok (.istore_n 2, 1) := by decide +kernel
theorem d_MD_ready_32 : decode b_MD_ready 32 = .ok (.iload_n 2, 1) := by decide +kernel
theorem d_MD_ready_33 : decode b_MD_ready 33 = .ok (.bipush (40), 2) := by decide +kernel
theorem d_MD_ready_35 : decode b_MD_ready 35 = .ok (.if_icmp .ge (30), 3) := by decide +kernel
theorem d_MD_ready_38 : decode b_MD_ready 38 = .ok (.aload_n 0, 1) := by decide +kernel
theorem d_MD_ready_39 : decode b_MD_ready 39 = .ok (.getfield 41, 3) := by decide +kernel
theorem d_MD_ready_42 : decode b_MD_ready 42 = .ok (.iload_n 2, 1) := by decide +kernel
theorem d_MD_ready_43 : decode b_MD_ready 43 = .ok (.iconst (0), 1) := by decide +kernel
theorem d_MD_ready_44 : decode b_MD_ready 44 = .ok (.iastore, 1) := by decide +kernel
theorem d_MD_ready_45 : decode b_MD_ready 45 = .ok (.aload_n 0, 1) := by decide +kernel
theorem d_MD_ready_46 : decode b_MD_ready 46 = .ok (.getfield 44, 3) := by decide +kernel
theorem d_MD_ready_49 : decode b_MD_ready 49 = .ok (.iload_n 2, 1) := by decide +kernel
theorem d_MD_ready_50 : decode b_MD_ready 50 = .ok (.iconst (0), 1) := by decide +kernel
theorem d_MD_ready_51 : decode b_MD_ready 51 = .ok (.iastore, 1) := by decide +kernel
theorem d_MD_ready_52 : decode b_MD_ready 52 = .ok (.aload_n 0, 1) := by decide +kernel
theorem d_MD_ready_53 : decode b_MD_ready 53 = .ok (.getfield 47, 3) := by decide +kernel
theorem d_MD_ready_56 : decode b_MD_ready 56 = .ok (.iload_n 2, 1) := by decide +kernel
theorem d_MD_ready_57 : decode b_MD_ready 57 = .ok (.iconst (0), 1) := by decide +kernel
theorem d_MD_ready_58 : decode b_MD_ready 58 = .ok (.bastore, 1) := by decide +kernel
theorem d_MD_ready_59 : decode b_MD_ready 59 = .ok (.iinc 2 (1), 3) := by decide +kernel
theorem d_MD_ready_62 : decode b_MD_ready 62 = .ok (.goto (-30), 3) := by decide +kernel
theorem d_MD_ready_65 : decode b_MD_ready 65 = .ok (.return_, 1) := by decide +kernel
theorem s_MD_ready_0 {E : mm_E} {Γ : mm_G} {lev kc ks ca sa : Nat} {w : mm_W} {f : mm_F} (h : mm_ok E Γ b_MD_ready 3 "PlannedTablesModel" lev kc ks) (hw : mm_sh w) {x1 : Int32} (k0 : mm_go E Γ 3 32 [(0, mm_rf E 136), (1, .int x1), (2, .int 0)] [] w (mm_up (mm_up (mm_up (mm_up (mm_up (mm_up f 136 16 x1) 136 17 0) 136 18 0) 136 19 0) 136 28 0) 136 30 0) ca sa) : mm_go E Γ 3 0 [(0, mm_rf E 136), (1, .int x1)] [] w f ca sa := by
  refine mm_aload_n h d_MD_ready_0 0 rfl rfl ?_
  refine mm_iload_n h d_MD_ready_1 1 rfl rfl ?_
  refine mm_puti h fl_MD_122 (Or.inl rfl) rfl rfl rfl (is_MO hw) d_MD_ready_2 ?_
  refine mm_aload_n h d_MD_ready_5 0 rfl rfl ?_
  refine mm_iconst (v := 0) h d_MD_ready_6 (by decide) ?_
  refine mm_puti h fl_MD_119 (Or.inl rfl) rfl rfl rfl (is_MO hw) d_MD_ready_7 ?_
  refine mm_aload_n h d_MD_ready_10 0 rfl rfl ?_
  refine mm_iconst (v := 0) h d_MD_ready_11 (by decide) ?_
  refine mm_puti h fl_MD_125 (Or.inl rfl) rfl rfl rfl (is_MO hw) d_MD_ready_12 ?_
  refine mm_aload_n h d_MD_ready_15 0 rfl rfl ?_
  refine mm_iconst (v := 0) h d_MD_ready_16 (by decide) ?_
  refine mm_puti h fl_MD_162 (Or.inl rfl) rfl rfl rfl (is_MO hw) d_MD_ready_17 ?_
  refine mm_aload_n h d_MD_ready_20 0 rfl rfl ?_
  refine mm_iconst (v := 0) h d_MD_ready_21 (by decide) ?_
  refine mm_puti h fl_MD_129 (Or.inl rfl) rfl rfl rfl (is_MO hw) d_MD_ready_22 ?_
  refine mm_aload_n h d_MD_ready_25 0 rfl rfl ?_
  refine mm_iconst (v := 0) h d_MD_ready_26 (by decide) ?_
  refine mm_puti h fl_MD_159 (Or.inl rfl) rfl rfl rfl (is_MO hw) d_MD_ready_27 ?_
  refine mm_iconst (v := 0) h d_MD_ready_30 (by decide) ?_
  refine mm_istore_n (lv' := [(2, .int 0), (0, mm_rf E 136), (1, .int x1)]) h d_MD_ready_31 rfl (by decide) rfl ?_
  refine mm_sub [1, 2, 0] rfl ?_
  exact k0
theorem s_MD_ready_32 {E : mm_E} {Γ : mm_G} {lev kc ks ca sa : Nat} {w : mm_W} {f : mm_F} {Post : Option Value → mm_W → mm_F → Prop} (h : mm_ok E Γ b_MD_ready 3 "PlannedTablesModel" lev kc ks) (he : mm_end E Γ none kc ks Post y_MD_ready.name) (hca : ca ≤ kc) (hsa : sa ≤ ks) (hw : mm_sh w) {x1 : Int32} {x2 : Int32} (k0 : 40 ≤ x2 → Post none w f) (b1 : ¬ 40 ≤ x2 → vp_in x2 40) (k2 : ¬ 40 ≤ x2 → mm_go E Γ 3 32 [(0, mm_rf E 136), (1, .int x1), (2, .int (x2 + 1))] [] w (mm_up (mm_up (mm_up f 147 (x2).toNatClampNeg 0) 148 (x2).toNatClampNeg 0) 149 (x2).toNatClampNeg 0) ca sa) : mm_go E Γ 3 32 [(0, mm_rf E 136), (1, .int x1), (2, .int x2)] [] w f ca sa := by
  refine mm_iload_n h d_MD_ready_32 2 rfl rfl ?_
  refine mm_bipush (v := 40) h d_MD_ready_33 (by decide) ?_
  refine mm_icmp_ge h d_MD_ready_35 (tgt := 65) (by decide) (fun c1 => ?_) (fun c1 => ?_)
  · skip
    exact mm_vret h he d_MD_ready_65 hca hsa (k0 c1)
  · skip
    refine mm_aload_n h d_MD_ready_38 0 rfl rfl ?_
    refine mm_getr h fl_MD_41 rfl (is_MO hw) (rf_MO_numbers hw) (is_Mnumbers hw).1.1 d_MD_ready_39 ?_
    refine mm_iload_n h d_MD_ready_42 2 rfl rfl ?_
    refine mm_iconst (v := 0) h d_MD_ready_43 (by decide) ?_
    refine mm_iast h (is_Mnumbers hw) (b1 c1) d_MD_ready_44 ?_
    refine mm_aload_n h d_MD_ready_45 0 rfl rfl ?_
    refine mm_getr h fl_MD_44 rfl (is_MO hw) (rf_MO_latest hw) (is_Mlatest hw).1.1 d_MD_ready_46 ?_
    refine mm_iload_n h d_MD_ready_49 2 rfl rfl ?_
    refine mm_iconst (v := 0) h d_MD_ready_50 (by decide) ?_
    refine mm_iast h (is_Mlatest hw) (b1 c1) d_MD_ready_51 ?_
    refine mm_aload_n h d_MD_ready_52 0 rfl rfl ?_
    refine mm_getr h fl_MD_47 rfl (is_MO hw) (rf_MO_has hw) (is_Mhas hw).1.1 d_MD_ready_53 ?_
    refine mm_iload_n h d_MD_ready_56 2 rfl rfl ?_
    refine mm_iconst (v := 0) h d_MD_ready_57 (by decide) ?_
    refine mm_zast h rfl (is_Mhas hw) (b1 c1) d_MD_ready_58 ?_
    refine mm_iinc (lv' := [(2, .int (x2 + 1)), (0, mm_rf E 136), (1, .int x1)]) h d_MD_ready_59 2 rfl (congrArg (fun z => x2 + z) lit1) (by decide) rfl ?_
    refine mm_goto h d_MD_ready_62 (tgt := 32) (by decide) ?_
    refine mm_sub [1, 2, 0] rfl ?_
    exact (k2 c1)
theorem d_MD_go_0 : decode b_MD_go 0 = .ok (.iconst (-1), 1) := by decide +kernel
theorem d_MD_go_1 : decode b_MD_go 1 = .ok (.istore_n 1, 1) := by decide +kernel
theorem d_MD_go_2 : decode b_MD_go 2 = .ok (.iload_n 1, 1) := by decide +kernel
theorem d_MD_go_3 : decode b_MD_go 3 = .ok (.aload_n 0, 1) := by decide +kernel
theorem d_MD_go_4 : decode b_MD_go 4 = .ok (.getfield 107, 3) := by decide +kernel
theorem d_MD_go_7 : decode b_MD_go 7 = .ok (.iconst (1), 1) := by decide +kernel
theorem d_MD_go_8 : decode b_MD_go 8 = .ok (.isub, 1) := by decide +kernel
theorem d_MD_go_9 : decode b_MD_go 9 = .ok (.if_icmp .ge (79), 3) := by decide +kernel
theorem d_MD_go_12 : decode b_MD_go 12 = .ok (.aload_n 0, 1) := by decide +kernel
theorem d_MD_go_13 : decode b_MD_go 13 = .ok (.getfield 125, 3) := by decide +kernel
theorem d_MD_go_16 : decode b_MD_go 16 = .ok (.ifCond .ne (72), 3) := by decide +kernel
theorem d_MD_go_19 : decode b_MD_go 19 = .ok (.aload_n 0, 1) := by decide +kernel
theorem d_MD_go_20 : decode b_MD_go 20 = .ok (.getfield 162, 3) := by decide +kernel
theorem d_MD_go_23 : decode b_MD_go 23 = .ok (.ifCond .ne (65), 3) := by decide +kernel
theorem d_MD_go_26 : decode b_MD_go 26 = .ok (.aload_n 0, 1) := by decide +kernel
theorem d_MD_go_27 : decode b_MD_go 27 = .ok (.iload_n 1, 1) := by decide +kernel
theorem d_MD_go_28 : decode b_MD_go 28 = .ok (.invokevirtual 183, 3) := by decide +kernel
theorem d_MD_go_31 : decode b_MD_go 31 = .ok (.istore_n 2, 1) := by decide +kernel
theorem d_MD_go_32 : decode b_MD_go 32 = .ok (.aload_n 0, 1) := by decide +kernel
theorem d_MD_go_33 : decode b_MD_go 33 = .ok (.iload_n 1, 1) := by decide +kernel
theorem d_MD_go_34 : decode b_MD_go 34 = .ok (.invokevirtual 186, 3) := by decide +kernel
theorem d_MD_go_37 : decode b_MD_go 37 = .ok (.istore_n 3, 1) := by decide +kernel
theorem d_MD_go_38 : decode b_MD_go 38 = .ok (.iload_n 3, 1) := by decide +kernel
theorem d_MD_go_39 : decode b_MD_go 39 = .ok (.iload_n 2, 1) := by decide +kernel
theorem d_MD_go_40 : decode b_MD_go 40 = .ok (.if_icmp .le (8), 3) := by decide +kernel
theorem d_MD_go_43 : decode b_MD_go 43 = .ok (.iload_n 3, 1) := by decide +kernel
theorem d_MD_go_44 : decode b_MD_go 44 = .ok (.istore_n 1, 1) := by decide +kernel
theorem d_MD_go_45 : decode b_MD_go 45 = .ok (.goto (40), 3) := by decide +kernel
theorem d_MD_go_48 : decode b_MD_go 48 = .ok (.iload_n 2, 1) := by decide +kernel
theorem d_MD_go_49 : decode b_MD_go 49 = .ok (.ifCond .lt (11), 3) := by decide +kernel
theorem d_MD_go_52 : decode b_MD_go 52 = .ok (.aload_n 0, 1) := by decide +kernel
theorem d_MD_go_53 : decode b_MD_go 53 = .ok (.iload_n 2, 1) := by decide +kernel
theorem d_MD_go_54 : decode b_MD_go 54 = .ok (.invokevirtual 189, 3) := by decide +kernel
theorem d_MD_go_57 : decode b_MD_go 57 = .ok (.goto (28), 3) := by decide +kernel
theorem d_MD_go_60 : decode b_MD_go 60 = .ok (.iload_n 1, 1) := by decide +kernel
theorem d_MD_go_61 : decode b_MD_go 61 = .ok (.ifCond .lt (15), 3) := by decide +kernel
theorem d_MD_go_64 : decode b_MD_go 64 = .ok (.iload_n 1, 1) := by decide +kernel
theorem d_MD_go_65 : decode b_MD_go 65 = .ok (.iconst (1), 1) := by decide +kernel
theorem d_MD_go_66 : decode b_MD_go 66 = .ok (.iadd, 1) := by decide +kernel
theorem d_MD_go_67 : decode b_MD_go 67 = .ok (.istore_n 1, 1) := by decide +kernel
theorem d_MD_go_68 : decode b_MD_go 68 = .ok (.aload_n 0, 1) := by decide +kernel
theorem d_MD_go_69 : decode b_MD_go 69 = .ok (.iload_n 1, 1) := by decide +kernel
theorem d_MD_go_70 : decode b_MD_go 70 = .ok (.invokevirtual 192, 3) := by decide +kernel
theorem d_MD_go_73 : decode b_MD_go 73 = .ok (.goto (12), 3) := by decide +kernel
theorem d_MD_go_76 : decode b_MD_go 76 = .ok (.aload_n 0, 1) := by decide +kernel
theorem d_MD_go_77 : decode b_MD_go 77 = .ok (.invokevirtual 195, 3) := by decide +kernel
theorem d_MD_go_80 : decode b_MD_go 80 = .ok (.ifCond .ne (5), 3) := by decide +kernel
theorem d_MD_go_83 : decode b_MD_go 83 = .ok (.iconst (0), 1) := by decide +kernel
theorem d_MD_go_84 : decode b_MD_go 84 = .ok (.istore_n 1, 1) := by decide +kernel
theorem d_MD_go_85 : decode b_MD_go 85 = .ok (.goto (-83), 3) := by decide +kernel
theorem d_MD_go_88 : decode b_MD_go 88 = .ok (.return_, 1) := by decide +kernel
theorem s_MD_go_0 {E : mm_E} {Γ : mm_G} {lev kc ks ca sa : Nat} {w : mm_W} {f : mm_F} (h : mm_ok E Γ b_MD_go 4 "PlannedTablesModel" lev kc ks) (hw : mm_sh w)  (k0 : mm_go E Γ 4 2 [(0, mm_rf E 136), (1, .int (-1))] [] w f ca sa) : mm_go E Γ 4 0 [(0, mm_rf E 136)] [] w f ca sa := by
  refine mm_iconst (v := (-1)) h d_MD_go_0 (by decide) ?_
  refine mm_istore_n (lv' := [(1, .int (-1)), (0, mm_rf E 136)]) h d_MD_go_1 rfl (by decide) rfl ?_
  refine mm_sub [1, 0] rfl ?_
  exact k0
theorem s_MD_go_2 {E : mm_E} {Γ : mm_G} {lev kc ks ca sa : Nat} {w : mm_W} {f : mm_F} (h : mm_ok E Γ b_MD_go 4 "PlannedTablesModel" lev kc ks) (hw : mm_sh w) {x1 : Int32} (k0 : ((f 136 10) - 1) ≤ x1 → mm_go E Γ 4 88 [(0, mm_rf E 136), (1, .int x1)] [] w f ca sa) (k1 : ¬ ((f 136 10) - 1) ≤ x1 → ¬ (f 136 18) = 0 → mm_go E Γ 4 88 [(0, mm_rf E 136), (1, .int x1)] [] w f ca sa) (k2 : ¬ ((f 136 10) - 1) ≤ x1 → (f 136 18) = 0 → ¬ (f 136 19) = 0 → mm_go E Γ 4 88 [(0, mm_rf E 136), (1, .int x1)] [] w f ca sa) {vl0 vc0 vs0 : Nat} {P0 : Option Value → mm_W → mm_F → Prop} (hl0 : vl0 < lev) (hu0 : ca + vc0 ≤ kc) (hz0 : sa + vs0 ≤ ks) (m3 : ¬ ((f 136 10) - 1) ≤ x1 → (f 136 18) = 0 → (f 136 19) = 0 → mm_C E y_MD_waiting b_MD_waiting 4 (some .int) vl0 vc0 vs0 [mm_rf E 136, .int x1] w f P0) (k4 : ¬ ((f 136 10) - 1) ≤ x1 → (f 136 18) = 0 → (f 136 19) = 0 → ∀ (r : Option Value) (w1 : mm_W) (f1 : mm_F), P0 r w1 f1 → mm_go E Γ 4 31 [(0, mm_rf E 136), (1, .int x1)] (r.toList ++ []) w1 f1 (ca + vc0) (sa + vs0)) : mm_go E Γ 4 2 [(0, mm_rf E 136), (1, .int x1)] [] w f ca sa := by
  refine mm_iload_n h d_MD_go_2 1 rfl rfl ?_
  refine mm_aload_n h d_MD_go_3 0 rfl rfl ?_
  refine mm_geti h fl_MD_107 rfl (is_MO hw) d_MD_go_4 ?_
  refine mm_iconst (v := 1) h d_MD_go_7 (by decide) ?_
  refine mm_isub h d_MD_go_8 ?_
  refine mm_icmp_ge h d_MD_go_9 (tgt := 88) (by decide) (fun c1 => ?_) (fun c1 => ?_)
  · skip
    exact (k0 c1)
  · skip
    refine mm_aload_n h d_MD_go_12 0 rfl rfl ?_
    refine mm_geti h fl_MD_125 rfl (is_MO hw) d_MD_go_13 ?_
    refine mm_if_ne h d_MD_go_16 (tgt := 88) (by decide) (fun c2 => ?_) (fun c2 => ?_)
    · skip
      exact (k1 c1 c2)
    · skip
      refine mm_aload_n h d_MD_go_19 0 rfl rfl ?_
      refine mm_geti h fl_MD_162 rfl (is_MO hw) d_MD_go_20 ?_
      refine mm_if_ne h d_MD_go_23 (tgt := 88) (by decide) (fun c3 => ?_) (fun c3 => ?_)
      · skip
        exact (k2 c1 c2 c3)
      · skip
        refine mm_aload_n h d_MD_go_26 0 rfl rfl ?_
        refine mm_iload_n h d_MD_go_27 1 rfl rfl ?_
        exact mm_callV (As := [.int x1]) (rest := []) h (m3 c1 c2 c3) cv_MD_183 cm_MD_waiting hl0 (q0 := _) rfl rfl (is_MO hw) hu0 hz0 rfl rfl (Nat.le_of_ble_eq_true rfl) d_MD_go_28 (fun r w1 f1 hp => (k4 c1 c2 c3) r w1 f1 hp)
theorem s_MD_go_31 {E : mm_E} {Γ : mm_G} {lev kc ks ca sa : Nat} {w : mm_W} {f : mm_F} (h : mm_ok E Γ b_MD_go 4 "PlannedTablesModel" lev kc ks) (hw : mm_sh w) {x1 : Int32} {xk0 : Int32} {vl0 vc0 vs0 : Nat} {P0 : Option Value → mm_W → mm_F → Prop} (hl0 : vl0 < lev) (hu0 : ca + vc0 ≤ kc) (hz0 : sa + vs0 ≤ ks) (m0 : mm_C E y_MD_satisfied b_MD_satisfied 4 (some .int) vl0 vc0 vs0 [mm_rf E 136, .int x1] w f P0) (k1 : ∀ (r : Option Value) (w1 : mm_W) (f1 : mm_F), P0 r w1 f1 → mm_go E Γ 4 37 [(0, mm_rf E 136), (1, .int x1), (2, .int xk0)] (r.toList ++ []) w1 f1 (ca + vc0) (sa + vs0)) : mm_go E Γ 4 31 [(0, mm_rf E 136), (1, .int x1)] [.int xk0] w f ca sa := by
  refine mm_istore_n (lv' := [(2, .int xk0), (0, mm_rf E 136), (1, .int x1)]) h d_MD_go_31 rfl (by decide) rfl ?_
  refine mm_aload_n h d_MD_go_32 1 rfl rfl ?_
  refine mm_iload_n h d_MD_go_33 2 rfl rfl ?_
  exact mm_callV (As := [.int x1]) (rest := []) h m0 cv_MD_186 cm_MD_satisfied hl0 (q0 := _) rfl rfl (is_MO hw) hu0 hz0 rfl rfl (Nat.le_of_ble_eq_true rfl) d_MD_go_34 (fun r w1 f1 hp => mm_sub [1, 2, 0] rfl (k1 r w1 f1 hp))
theorem s_MD_go_37 {E : mm_E} {Γ : mm_G} {lev kc ks ca sa : Nat} {w : mm_W} {f : mm_F} (h : mm_ok E Γ b_MD_go 4 "PlannedTablesModel" lev kc ks) (hw : mm_sh w) {x1 : Int32} {x2 : Int32} {xk0 : Int32} {vl0 vc0 vs0 : Nat} {P0 : Option Value → mm_W → mm_F → Prop} (hl0 : vl0 < lev) (hu0 : ca + vc0 ≤ kc) (hz0 : sa + vs0 ≤ ks) (m0 : xk0 ≤ x2 → x2 < 0 → x1 < 0 → mm_C E y_MD_begin b_MD_begin 2 (some .boolean) vl0 vc0 vs0 [mm_rf E 136] w f P0) (k1 : xk0 ≤ x2 → x2 < 0 → x1 < 0 → ∀ (r : Option Value) (w1 : mm_W) (f1 : mm_F), P0 r w1 f1 → mm_go E Γ 4 80 [(0, mm_rf E 136), (1, .int x1), (2, .int x2), (3, .int xk0)] (r.toList ++ []) w1 f1 (ca + vc0) (sa + vs0)) {vl1 vc1 vs1 : Nat} {P1 : Option Value → mm_W → mm_F → Prop} (hl1 : vl1 < lev) (hu1 : ca + vc1 ≤ kc) (hz1 : sa + vs1 ≤ ks) (m2 : xk0 ≤ x2 → x2 < 0 → ¬ x1 < 0 → mm_C E y_MD_close b_MD_close 3 none vl1 vc1 vs1 [mm_rf E 136, .int (x1 + 1)] w f P1) (k3 : xk0 ≤ x2 → x2 < 0 → ¬ x1 < 0 → ∀ (r : Option Value) (w1 : mm_W) (f1 : mm_F), P1 r w1 f1 → mm_go E Γ 4 73 [(0, mm_rf E 136), (1, .int (x1 + 1)), (2, .int x2), (3, .int xk0)] (r.toList ++ []) w1 f1 (ca + vc1) (sa + vs1)) {vl2 vc2 vs2 : Nat} {P2 : Option Value → mm_W → mm_F → Prop} (hl2 : vl2 < lev) (hu2 : ca + vc2 ≤ kc) (hz2 : sa + vs2 ≤ ks) (m4 : xk0 ≤ x2 → ¬ x2 < 0 → mm_C E y_MD_follow b_MD_follow 4 none vl2 vc2 vs2 [mm_rf E 136, .int x2] w f P2) (k5 : xk0 ≤ x2 → ¬ x2 < 0 → ∀ (r : Option Value) (w1 : mm_W) (f1 : mm_F), P2 r w1 f1 → mm_go E Γ 4 57 [(0, mm_rf E 136), (1, .int x1), (2, .int x2), (3, .int xk0)] (r.toList ++ []) w1 f1 (ca + vc2) (sa + vs2)) (k6 : ¬ xk0 ≤ x2 → mm_go E Γ 4 85 [(0, mm_rf E 136), (1, .int xk0), (2, .int x2), (3, .int xk0)] [] w f ca sa) : mm_go E Γ 4 37 [(0, mm_rf E 136), (1, .int x1), (2, .int x2)] [.int xk0] w f ca sa := by
  refine mm_istore_n (lv' := [(3, .int xk0), (0, mm_rf E 136), (1, .int x1), (2, .int x2)]) h d_MD_go_37 rfl (by decide) rfl ?_
  refine mm_iload_n h d_MD_go_38 0 rfl rfl ?_
  refine mm_iload_n h d_MD_go_39 3 rfl rfl ?_
  refine mm_icmp_le h d_MD_go_40 (tgt := 48) (by decide) (fun c1 => ?_) (fun c1 => ?_)
  · skip
    refine mm_iload_n h d_MD_go_48 3 rfl rfl ?_
    refine mm_if_lt h d_MD_go_49 (tgt := 60) (by decide) (fun c2 => ?_) (fun c2 => ?_)
    · skip
      refine mm_iload_n h d_MD_go_60 2 rfl rfl ?_
      refine mm_if_lt h d_MD_go_61 (tgt := 76) (by decide) (fun c3 => ?_) (fun c3 => ?_)
      · skip
        refine mm_aload_n h d_MD_go_76 1 rfl rfl ?_
        exact mm_callV (As := []) (rest := []) h (m0 c1 c2 c3) cv_MD_195 cm_MD_begin hl0 (q0 := _) rfl rfl (is_MO hw) hu0 hz0 rfl rfl (Nat.le_of_ble_eq_true rfl) d_MD_go_77 (fun r w1 f1 hp => mm_sub [1, 2, 3, 0] rfl ((k1 c1 c2 c3) r w1 f1 hp))
      · skip
        refine mm_iload_n h d_MD_go_64 2 rfl rfl ?_
        refine mm_iconst (v := 1) h d_MD_go_65 (by decide) ?_
        refine mm_iadd h d_MD_go_66 ?_
        refine mm_istore_n (lv' := [(1, .int (x1 + 1)), (3, .int xk0), (0, mm_rf E 136), (2, .int x2)]) h d_MD_go_67 rfl (by decide) rfl ?_
        refine mm_aload_n h d_MD_go_68 2 rfl rfl ?_
        refine mm_iload_n h d_MD_go_69 0 rfl rfl ?_
        exact mm_callV (As := [.int (x1 + 1)]) (rest := []) h (m2 c1 c2 c3) cv_MD_192 cm_MD_close hl1 (q0 := _) rfl rfl (is_MO hw) hu1 hz1 rfl rfl (Nat.le_of_ble_eq_true rfl) d_MD_go_70 (fun r w1 f1 hp => mm_sub [2, 0, 3, 1] rfl ((k3 c1 c2 c3) r w1 f1 hp))
    · skip
      refine mm_aload_n h d_MD_go_52 1 rfl rfl ?_
      refine mm_iload_n h d_MD_go_53 3 rfl rfl ?_
      exact mm_callV (As := [.int x2]) (rest := []) h (m4 c1 c2) cv_MD_189 cm_MD_follow hl2 (q0 := _) rfl rfl (is_MO hw) hu2 hz2 rfl rfl (Nat.le_of_ble_eq_true rfl) d_MD_go_54 (fun r w1 f1 hp => mm_sub [1, 2, 3, 0] rfl ((k5 c1 c2) r w1 f1 hp))
  · skip
    refine mm_iload_n h d_MD_go_43 0 rfl rfl ?_
    refine mm_istore_n (lv' := [(1, .int xk0), (3, .int xk0), (0, mm_rf E 136), (2, .int x2)]) h d_MD_go_44 rfl (by decide) rfl ?_
    refine mm_goto h d_MD_go_45 (tgt := 85) (by decide) ?_
    refine mm_sub [2, 0, 3, 1] rfl ?_
    exact (k6 c1)
theorem s_MD_go_57 {E : mm_E} {Γ : mm_G} {lev kc ks ca sa : Nat} {w : mm_W} {f : mm_F} (h : mm_ok E Γ b_MD_go 4 "PlannedTablesModel" lev kc ks) (hw : mm_sh w) {x1 : Int32} {x2 : Int32} {x3 : Int32} (k0 : mm_go E Γ 4 85 [(0, mm_rf E 136), (1, .int x1), (2, .int x2), (3, .int x3)] [] w f ca sa) : mm_go E Γ 4 57 [(0, mm_rf E 136), (1, .int x1), (2, .int x2), (3, .int x3)] [] w f ca sa := by
  refine mm_goto h d_MD_go_57 (tgt := 85) (by decide) ?_
  exact k0
theorem s_MD_go_73 {E : mm_E} {Γ : mm_G} {lev kc ks ca sa : Nat} {w : mm_W} {f : mm_F} (h : mm_ok E Γ b_MD_go 4 "PlannedTablesModel" lev kc ks) (hw : mm_sh w) {x1 : Int32} {x2 : Int32} {x3 : Int32} (k0 : mm_go E Γ 4 85 [(0, mm_rf E 136), (1, .int x1), (2, .int x2), (3, .int x3)] [] w f ca sa) : mm_go E Γ 4 73 [(0, mm_rf E 136), (1, .int x1), (2, .int x2), (3, .int x3)] [] w f ca sa := by
  refine mm_goto h d_MD_go_73 (tgt := 85) (by decide) ?_
  exact k0
theorem s_MD_go_80 {E : mm_E} {Γ : mm_G} {lev kc ks ca sa : Nat} {w : mm_W} {f : mm_F} (h : mm_ok E Γ b_MD_go 4 "PlannedTablesModel" lev kc ks) (hw : mm_sh w) {x1 : Int32} {x2 : Int32} {x3 : Int32} {xk0 : Int32} (k0 : ¬ xk0 = 0 → mm_go E Γ 4 85 [(0, mm_rf E 136), (1, .int x1), (2, .int x2), (3, .int x3)] [] w f ca sa) (k1 : xk0 = 0 → mm_go E Γ 4 85 [(0, mm_rf E 136), (1, .int 0), (2, .int x2), (3, .int x3)] [] w f ca sa) : mm_go E Γ 4 80 [(0, mm_rf E 136), (1, .int x1), (2, .int x2), (3, .int x3)] [.int xk0] w f ca sa := by
  refine mm_if_ne h d_MD_go_80 (tgt := 85) (by decide) (fun c1 => ?_) (fun c1 => ?_)
  · skip
    exact (k0 c1)
  · skip
    refine mm_iconst (v := 0) h d_MD_go_83 (by decide) ?_
    refine mm_istore_n (lv' := [(1, .int 0), (0, mm_rf E 136), (2, .int x2), (3, .int x3)]) h d_MD_go_84 rfl (by decide) rfl ?_
    refine mm_sub [1, 0, 2, 3] rfl ?_
    exact (k1 c1)
theorem s_MD_go_85 {E : mm_E} {Γ : mm_G} {lev kc ks ca sa : Nat} {w : mm_W} {f : mm_F} (h : mm_ok E Γ b_MD_go 4 "PlannedTablesModel" lev kc ks) (hw : mm_sh w) {x1 : Int32} {x2 : Int32} {x3 : Int32} (k0 : mm_go E Γ 4 2 [(0, mm_rf E 136), (1, .int x1)] [] w f ca sa) : mm_go E Γ 4 85 [(0, mm_rf E 136), (1, .int x1), (2, .int x2), (3, .int x3)] [] w f ca sa := by
  refine mm_goto h d_MD_go_85 (tgt := 2) (by decide) ?_
  refine mm_sub [0, 1] rfl ?_
  exact k0
theorem s_MD_go_88 {E : mm_E} {Γ : mm_G} {lev kc ks ca sa : Nat} {w : mm_W} {f : mm_F} {Post : Option Value → mm_W → mm_F → Prop} (h : mm_ok E Γ b_MD_go 4 "PlannedTablesModel" lev kc ks) (he : mm_end E Γ none kc ks Post y_MD_go.name) (hca : ca ≤ kc) (hsa : sa ≤ ks) (hw : mm_sh w) {x1 : Int32} (k0 : Post none w f) : mm_go E Γ 4 88 [(0, mm_rf E 136), (1, .int x1)] [] w f ca sa := by
  exact mm_vret h he d_MD_go_88 hca hsa k0
theorem d_MD_run_0 : decode b_MD_run 0 = .ok (.aload_n 0, 1) := by decide +kernel
theorem d_MD_run_1 : decode b_MD_run 1 = .ok (.invokevirtual 116, 3) := by decide +kernel
theorem d_MD_run_4 : decode b_MD_run 4 = .ok (.aload_n 0, 1) := by decide +kernel
theorem d_MD_run_5 : decode b_MD_run 5 = .ok (.aload_n 0, 1) := by decide +kernel
theorem d_MD_run_6 : decode b_MD_run 6 = .ok (.getfield 85, 3) := by decide +kernel
theorem d_MD_run_9 : decode b_MD_run 9 = .ok (.ifCond .ge (7), 3) := by decide +kernel
theorem d_MD_run_12 : decode b_MD_run 12 = .ok (.iload_n 1, 1) := by decide +kernel
theorem d_MD_run_13 : decode b_MD_run 13 = .ok (.ifCond .ge (7), 3) := by decide +kernel
theorem d_MD_run_16 : decode b_MD_run 16 = .ok (.iconst (1), 1) := by decide +kernel
theorem d_MD_run_17 : decode b_MD_run 17 = .ok (.goto (4), 3) := by decide +kernel
theorem d_MD_run_20 : decode b_MD_run 20 = .ok (.iconst (0), 1) := by decide +kernel
theorem d_MD_run_21 : decode b_MD_run 21 = .ok (.putfield 56, 3) := by decide +kernel
theorem d_MD_run_24 : decode b_MD_run 24 = .ok (.aload_n 0, 1) := by decide +kernel
theorem d_MD_run_25 : decode b_MD_run 25 = .ok (.iconst (0), 1) := by decide +kernel
theorem d_MD_run_26 : decode b_MD_run 26 = .ok (.putfield 159, 3) := by decide +kernel
theorem d_MD_run_29 : decode b_MD_run 29 = .ok (.aload_n 0, 1) := by decide +kernel
theorem d_MD_run_30 : decode b_MD_run 30 = .ok (.getfield 56, 3) := by decide +kernel
theorem d_MD_run_33 : decode b_MD_run 33 = .ok (.ifCond .le (5), 3) := by decide +kernel
theorem d_MD_run_36 : decode b_MD_run 36 = .ok (.iconst (0), 1) := by decide +kernel
theorem d_MD_run_37 : decode b_MD_run 37 = .ok (.ireturn, 1) := by decide +kernel
theorem d_MD_run_38 : decode b_MD_run 38 = .ok (.aload_n 0, 1) := by decide +kernel
theorem d_MD_run_39 : decode b_MD_run 39 = .ok (.iload_n 1, 1) := by decide +kernel
theorem d_MD_run_40 : decode b_MD_run 40 = .ok (.invokevirtual 198, 3) := by decide +kernel
theorem d_MD_run_43 : decode b_MD_run 43 = .ok (.aload_n 0, 1) := by decide +kernel
theorem d_MD_run_44 : decode b_MD_run 44 = .ok (.invokevirtual 201, 3) := by decide +kernel
theorem d_MD_run_47 : decode b_MD_run 47 = .ok (.aload_n 0, 1) := by decide +kernel
theorem d_MD_run_48 : decode b_MD_run 48 = .ok (.aload_n 0, 1) := by decide +kernel
theorem d_MD_run_49 : decode b_MD_run 49 = .ok (.getfield 125, 3) := by decide +kernel
theorem d_MD_run_52 : decode b_MD_run 52 = .ok (.ifCond .eq (7), 3) := by decide +kernel
theorem d_MD_run_55 : decode b_MD_run 55 = .ok (.iconst (2), 1) := by decide +kernel
theorem d_MD_run_56 : decode b_MD_run 56 = .ok (.goto (15), 3) := by decide +kernel
theorem d_MD_run_59 : decode b_MD_run 59 = .ok (.aload_n 0, 1) := by decide +kernel
theorem d_MD_run_60 : decode b_MD_run 60 = .ok (.getfield 162, 3) := by decide +kernel
theorem d_MD_run_63 : decode b_MD_run 63 = .ok (.ifCond .eq (7), 3) := by decide +kernel
theorem d_MD_run_66 : decode b_MD_run 66 = .ok (.iconst (3), 1) := by decide +kernel
theorem d_MD_run_67 : decode b_MD_run 67 = .ok (.goto (4), 3) := by decide +kernel
theorem d_MD_run_70 : decode b_MD_run 70 = .ok (.iconst (0), 1) := by decide +kernel
theorem d_MD_run_71 : decode b_MD_run 71 = .ok (.putfield 56, 3) := by decide +kernel
theorem d_MD_run_74 : decode b_MD_run 74 = .ok (.aload_n 0, 1) := by decide +kernel
theorem d_MD_run_75 : decode b_MD_run 75 = .ok (.getfield 56, 3) := by decide +kernel
theorem d_MD_run_78 : decode b_MD_run 78 = .ok (.ifCond .le (10), 3) := by decide +kernel
theorem d_MD_run_81 : decode b_MD_run 81 = .ok (.aload_n 0, 1) := by decide +kernel
theorem d_MD_run_82 : decode b_MD_run 82 = .ok (.iconst (0), 1) := by decide +kernel
theorem d_MD_run_83 : decode b_MD_run 83 = .ok (.putfield 159, 3) := by decide +kernel
theorem d_MD_run_86 : decode b_MD_run 86 = .ok (.iconst (0), 1) := by decide +kernel
theorem d_MD_run_87 : decode b_MD_run 87 = .ok (.ireturn, 1) := by decide +kernel
theorem d_MD_run_88 : decode b_MD_run 88 = .ok (.aload_n 0, 1) := by decide +kernel
theorem d_MD_run_89 : decode b_MD_run 89 = .ok (.aload_n 0, 1) := by decide +kernel
theorem d_MD_run_90 : decode b_MD_run 90 = .ok (.getfield 119, 3) := by decide +kernel
theorem d_MD_run_93 : decode b_MD_run 93 = .ok (.putfield 204, 3) := by decide +kernel
theorem d_MD_run_96 : decode b_MD_run 96 = .ok (.aload_n 0, 1) := by decide +kernel
theorem d_MD_run_97 : decode b_MD_run 97 = .ok (.getfield 159, 3) := by decide +kernel
theorem d_MD_run_100 : decode b_MD_run 100 = .ok (.aload_n 0, 1) := by decide +kernel
theorem d_MD_run_101 : decode b_MD_run 101 = .ok (.getfield 95, 3) := by decide +kernel
theorem d_MD_run_104 : decode b_MD_run 104 = .ok (.idiv, 1) := by decide +kernel
theorem d_MD_run_105 : decode b_MD_run 105 = .ok (.ireturn, 1) := by decide +kernel
theorem s_MD_run_0 {E : mm_E} {Γ : mm_G} {lev kc ks ca sa : Nat} {w : mm_W} {f : mm_F} (h : mm_ok E Γ b_MD_run 2 "PlannedTablesModel" lev kc ks) (hw : mm_sh w) {x1 : Int32} {vl0 vc0 vs0 : Nat} {P0 : Option Value → mm_W → mm_F → Prop} (hl0 : vl0 < lev) (hu0 : ca + vc0 ≤ kc) (hz0 : sa + vs0 ≤ ks) (m0 : mm_C E y_MD_readPlan b_MD_readPlan 3 none vl0 vc0 vs0 [mm_rf E 136] w f P0) (k1 : ∀ (r : Option Value) (w1 : mm_W) (f1 : mm_F), P0 r w1 f1 → mm_go E Γ 2 4 [(0, mm_rf E 136), (1, .int x1)] (r.toList ++ []) w1 f1 (ca + vc0) (sa + vs0)) : mm_go E Γ 2 0 [(0, mm_rf E 136), (1, .int x1)] [] w f ca sa := by
  refine mm_aload_n h d_MD_run_0 0 rfl rfl ?_
  exact mm_callV (As := []) (rest := []) h m0 cv_MD_116 cm_MD_readPlan hl0 (q0 := _) rfl rfl (is_MO hw) hu0 hz0 rfl rfl (Nat.le_of_ble_eq_true rfl) d_MD_run_1 (fun r w1 f1 hp => k1 r w1 f1 hp)
theorem s_MD_run_4 {E : mm_E} {Γ : mm_G} {lev kc ks ca sa : Nat} {w : mm_W} {f : mm_F} (h : mm_ok E Γ b_MD_run 2 "PlannedTablesModel" lev kc ks) (hw : mm_sh w) {x1 : Int32} (k0 : 0 ≤ (f 136 11) → mm_go E Γ 2 16 [(0, mm_rf E 136), (1, .int x1)] [mm_rf E 136] w f ca sa) (k1 : ¬ 0 ≤ (f 136 11) → 0 ≤ x1 → mm_go E Γ 2 21 [(0, mm_rf E 136), (1, .int x1)] [.int 0, mm_rf E 136] w f ca sa) (k2 : ¬ 0 ≤ (f 136 11) → ¬ 0 ≤ x1 → mm_go E Γ 2 16 [(0, mm_rf E 136), (1, .int x1)] [mm_rf E 136] w f ca sa) : mm_go E Γ 2 4 [(0, mm_rf E 136), (1, .int x1)] [] w f ca sa := by
  refine mm_aload_n h d_MD_run_4 0 rfl rfl ?_
  refine mm_aload_n h d_MD_run_5 0 rfl rfl ?_
  refine mm_geti h fl_MD_85 rfl (is_MO hw) d_MD_run_6 ?_
  refine mm_if_ge h d_MD_run_9 (tgt := 16) (by decide) (fun c1 => ?_) (fun c1 => ?_)
  · skip
    exact (k0 c1)
  · skip
    refine mm_iload_n h d_MD_run_12 1 rfl rfl ?_
    refine mm_if_ge h d_MD_run_13 (tgt := 20) (by decide) (fun c2 => ?_) (fun c2 => ?_)
    · skip
      refine mm_iconst (v := 0) h d_MD_run_20 (by decide) ?_
      exact (k1 c1 c2)
    · skip
      exact (k2 c1 c2)
theorem s_MD_run_16 {E : mm_E} {Γ : mm_G} {lev kc ks ca sa : Nat} {w : mm_W} {f : mm_F} (h : mm_ok E Γ b_MD_run 2 "PlannedTablesModel" lev kc ks) (hw : mm_sh w) {x1 : Int32} (k0 : mm_go E Γ 2 21 [(0, mm_rf E 136), (1, .int x1)] [.int 1, mm_rf E 136] w f ca sa) : mm_go E Γ 2 16 [(0, mm_rf E 136), (1, .int x1)] [mm_rf E 136] w f ca sa := by
  refine mm_iconst (v := 1) h d_MD_run_16 (by decide) ?_
  refine mm_goto h d_MD_run_17 (tgt := 21) (by decide) ?_
  exact k0
theorem s_MD_run_21 {E : mm_E} {Γ : mm_G} {lev kc ks ca sa : Nat} {w : mm_W} {f : mm_F} {Post : Option Value → mm_W → mm_F → Prop} (h : mm_ok E Γ b_MD_run 2 "PlannedTablesModel" lev kc ks) (he : mm_end E Γ (some .int) kc ks Post y_MD_run.name) (hca : ca ≤ kc) (hsa : sa ≤ ks) (hw : mm_sh w) {x1 : Int32} {xk1 : Int32} {vl0 vc0 vs0 : Nat} {P0 : Option Value → mm_W → mm_F → Prop} (hl0 : vl0 < lev) (hu0 : ca + vc0 ≤ kc) (hz0 : sa + vs0 ≤ ks) (m0 : ((mm_up (mm_up f 136 0 xk1) 136 30 0) 136 0) ≤ 0 → mm_C E y_MD_ready b_MD_ready 3 none vl0 vc0 vs0 [mm_rf E 136, .int x1] w (mm_up (mm_up f 136 0 xk1) 136 30 0) P0) (k1 : ((mm_up (mm_up f 136 0 xk1) 136 30 0) 136 0) ≤ 0 → ∀ (r : Option Value) (w1 : mm_W) (f1 : mm_F), P0 r w1 f1 → mm_go E Γ 2 43 [(0, mm_rf E 136), (1, .int x1)] (r.toList ++ []) w1 f1 (ca + vc0) (sa + vs0)) (k2 : ¬ ((mm_up (mm_up f 136 0 xk1) 136 30 0) 136 0) ≤ 0 → Post (some (.int 0)) w (mm_up (mm_up f 136 0 xk1) 136 30 0)) : mm_go E Γ 2 21 [(0, mm_rf E 136), (1, .int x1)] [.int xk1, mm_rf E 136] w f ca sa := by
  refine mm_puti h fl_MD_56 (Or.inl rfl) rfl rfl rfl (is_MO hw) d_MD_run_21 ?_
  refine mm_aload_n h d_MD_run_24 0 rfl rfl ?_
  refine mm_iconst (v := 0) h d_MD_run_25 (by decide) ?_
  refine mm_puti h fl_MD_159 (Or.inl rfl) rfl rfl rfl (is_MO hw) d_MD_run_26 ?_
  refine mm_aload_n h d_MD_run_29 0 rfl rfl ?_
  refine mm_geti h fl_MD_56 rfl (is_MO hw) d_MD_run_30 ?_
  refine mm_if_le h d_MD_run_33 (tgt := 38) (by decide) (fun c1 => ?_) (fun c1 => ?_)
  · skip
    refine mm_aload_n h d_MD_run_38 0 rfl rfl ?_
    refine mm_iload_n h d_MD_run_39 1 rfl rfl ?_
    exact mm_callV (As := [.int x1]) (rest := []) h (m0 c1) cv_MD_198 cm_MD_ready hl0 (q0 := _) rfl rfl (is_MO hw) hu0 hz0 rfl rfl (Nat.le_of_ble_eq_true rfl) d_MD_run_40 (fun r w1 f1 hp => (k1 c1) r w1 f1 hp)
  · skip
    refine mm_iconst (v := 0) h d_MD_run_36 (by decide) ?_
    exact mm_iret h he rfl d_MD_run_37 hca hsa (k2 c1)
theorem s_MD_run_43 {E : mm_E} {Γ : mm_G} {lev kc ks ca sa : Nat} {w : mm_W} {f : mm_F} (h : mm_ok E Γ b_MD_run 2 "PlannedTablesModel" lev kc ks) (hw : mm_sh w) {x1 : Int32} {vl0 vc0 vs0 : Nat} {P0 : Option Value → mm_W → mm_F → Prop} (hl0 : vl0 < lev) (hu0 : ca + vc0 ≤ kc) (hz0 : sa + vs0 ≤ ks) (m0 : mm_C E y_MD_go b_MD_go 4 none vl0 vc0 vs0 [mm_rf E 136] w f P0) (k1 : ∀ (r : Option Value) (w1 : mm_W) (f1 : mm_F), P0 r w1 f1 → mm_go E Γ 2 47 [(0, mm_rf E 136), (1, .int x1)] (r.toList ++ []) w1 f1 (ca + vc0) (sa + vs0)) : mm_go E Γ 2 43 [(0, mm_rf E 136), (1, .int x1)] [] w f ca sa := by
  refine mm_aload_n h d_MD_run_43 0 rfl rfl ?_
  exact mm_callV (As := []) (rest := []) h m0 cv_MD_201 cm_MD_go hl0 (q0 := _) rfl rfl (is_MO hw) hu0 hz0 rfl rfl (Nat.le_of_ble_eq_true rfl) d_MD_run_44 (fun r w1 f1 hp => k1 r w1 f1 hp)
theorem s_MD_run_47 {E : mm_E} {Γ : mm_G} {lev kc ks ca sa : Nat} {w : mm_W} {f : mm_F} (h : mm_ok E Γ b_MD_run 2 "PlannedTablesModel" lev kc ks) (hw : mm_sh w) {x1 : Int32} (k0 : (f 136 18) = 0 → (f 136 19) = 0 → mm_go E Γ 2 71 [(0, mm_rf E 136), (1, .int x1)] [.int 0, mm_rf E 136] w f ca sa) (k1 : (f 136 18) = 0 → ¬ (f 136 19) = 0 → mm_go E Γ 2 71 [(0, mm_rf E 136), (1, .int x1)] [.int 3, mm_rf E 136] w f ca sa) (k2 : ¬ (f 136 18) = 0 → mm_go E Γ 2 71 [(0, mm_rf E 136), (1, .int x1)] [.int 2, mm_rf E 136] w f ca sa) : mm_go E Γ 2 47 [(0, mm_rf E 136), (1, .int x1)] [] w f ca sa := by
  refine mm_aload_n h d_MD_run_47 0 rfl rfl ?_
  refine mm_aload_n h d_MD_run_48 0 rfl rfl ?_
  refine mm_geti h fl_MD_125 rfl (is_MO hw) d_MD_run_49 ?_
  refine mm_if_eq h d_MD_run_52 (tgt := 59) (by decide) (fun c1 => ?_) (fun c1 => ?_)
  · skip
    refine mm_aload_n h d_MD_run_59 0 rfl rfl ?_
    refine mm_geti h fl_MD_162 rfl (is_MO hw) d_MD_run_60 ?_
    refine mm_if_eq h d_MD_run_63 (tgt := 70) (by decide) (fun c2 => ?_) (fun c2 => ?_)
    · skip
      refine mm_iconst (v := 0) h d_MD_run_70 (by decide) ?_
      exact (k0 c1 c2)
    · skip
      refine mm_iconst (v := 3) h d_MD_run_66 (by decide) ?_
      refine mm_goto h d_MD_run_67 (tgt := 71) (by decide) ?_
      exact (k1 c1 c2)
  · skip
    refine mm_iconst (v := 2) h d_MD_run_55 (by decide) ?_
    refine mm_goto h d_MD_run_56 (tgt := 71) (by decide) ?_
    exact (k2 c1)
theorem s_MD_run_71 {E : mm_E} {Γ : mm_G} {lev kc ks ca sa : Nat} {w : mm_W} {f : mm_F} {Post : Option Value → mm_W → mm_F → Prop} (h : mm_ok E Γ b_MD_run 2 "PlannedTablesModel" lev kc ks) (he : mm_end E Γ (some .int) kc ks Post y_MD_run.name) (hca : ca ≤ kc) (hsa : sa ≤ ks) (hw : mm_sh w) {x1 : Int32} {xk1 : Int32} (z0 : ((mm_up f 136 0 xk1) 136 0) ≤ 0 → ¬ ((mm_up (mm_up f 136 0 xk1) 136 29 ((mm_up f 136 0 xk1) 136 17)) 136 15) = 0) (k1 : ((mm_up f 136 0 xk1) 136 0) ≤ 0 → Post (some (.int (((mm_up (mm_up f 136 0 xk1) 136 29 ((mm_up f 136 0 xk1) 136 17)) 136 30) / ((mm_up (mm_up f 136 0 xk1) 136 29 ((mm_up f 136 0 xk1) 136 17)) 136 15)))) w (mm_up (mm_up f 136 0 xk1) 136 29 ((mm_up f 136 0 xk1) 136 17))) (k2 : ¬ ((mm_up f 136 0 xk1) 136 0) ≤ 0 → Post (some (.int 0)) w (mm_up (mm_up f 136 0 xk1) 136 30 0)) : mm_go E Γ 2 71 [(0, mm_rf E 136), (1, .int x1)] [.int xk1, mm_rf E 136] w f ca sa := by
  refine mm_puti h fl_MD_56 (Or.inl rfl) rfl rfl rfl (is_MO hw) d_MD_run_71 ?_
  refine mm_aload_n h d_MD_run_74 0 rfl rfl ?_
  refine mm_geti h fl_MD_56 rfl (is_MO hw) d_MD_run_75 ?_
  refine mm_if_le h d_MD_run_78 (tgt := 88) (by decide) (fun c1 => ?_) (fun c1 => ?_)
  · skip
    refine mm_aload_n h d_MD_run_88 0 rfl rfl ?_
    refine mm_aload_n h d_MD_run_89 0 rfl rfl ?_
    refine mm_geti h fl_MD_119 rfl (is_MO hw) d_MD_run_90 ?_
    refine mm_puti h fl_MD_204 (Or.inl rfl) rfl rfl rfl (is_MO hw) d_MD_run_93 ?_
    refine mm_aload_n h d_MD_run_96 0 rfl rfl ?_
    refine mm_geti h fl_MD_159 rfl (is_MO hw) d_MD_run_97 ?_
    refine mm_aload_n h d_MD_run_100 0 rfl rfl ?_
    refine mm_geti h fl_MD_95 rfl (is_MO hw) d_MD_run_101 ?_
    refine mm_idiv h d_MD_run_104 (z0 c1) ?_
    exact mm_iret h he rfl d_MD_run_105 hca hsa (k1 c1)
  · skip
    refine mm_aload_n h d_MD_run_81 0 rfl rfl ?_
    refine mm_iconst (v := 0) h d_MD_run_82 (by decide) ?_
    refine mm_puti h fl_MD_159 (Or.inl rfl) rfl rfl rfl (is_MO hw) d_MD_run_83 ?_
    refine mm_iconst (v := 0) h d_MD_run_86 (by decide) ?_
    exact mm_iret h he rfl d_MD_run_87 hca hsa (k2 c1)
theorem d_MD_visits_0 : decode b_MD_visits 0 = .ok (.aload_n 0, 1) := by decide +kernel
theorem d_MD_visits_1 : decode b_MD_visits 1 = .ok (.iconst (0), 1) := by decide +kernel
theorem d_MD_visits_2 : decode b_MD_visits 2 = .ok (.putfield 56, 3) := by decide +kernel
theorem d_MD_visits_5 : decode b_MD_visits 5 = .ok (.aload_n 0, 1) := by decide +kernel
theorem d_MD_visits_6 : decode b_MD_visits 6 = .ok (.getfield 204, 3) := by decide +kernel
theorem d_MD_visits_9 : decode b_MD_visits 9 = .ok (.ireturn, 1) := by decide +kernel
theorem s_MD_visits_0 {E : mm_E} {Γ : mm_G} {lev kc ks ca sa : Nat} {w : mm_W} {f : mm_F} {Post : Option Value → mm_W → mm_F → Prop} (h : mm_ok E Γ b_MD_visits 1 "PlannedTablesModel" lev kc ks) (he : mm_end E Γ (some .int) kc ks Post y_MD_visits.name) (hca : ca ≤ kc) (hsa : sa ≤ ks) (hw : mm_sh w)  (k0 : Post (some (.int ((mm_up f 136 0 0) 136 29))) w (mm_up f 136 0 0)) : mm_go E Γ 1 0 [(0, mm_rf E 136)] [] w f ca sa := by
  refine mm_aload_n h d_MD_visits_0 0 rfl rfl ?_
  refine mm_iconst (v := 0) h d_MD_visits_1 (by decide) ?_
  refine mm_puti h fl_MD_56 (Or.inl rfl) rfl rfl rfl (is_MO hw) d_MD_visits_2 ?_
  refine mm_aload_n h d_MD_visits_5 0 rfl rfl ?_
  refine mm_geti h fl_MD_204 rfl (is_MO hw) d_MD_visits_6 ?_
  exact mm_iret h he rfl d_MD_visits_9 hca hsa k0
theorem d_MD_size_0 : decode b_MD_size 0 = .ok (.aload_n 0, 1) := by decide +kernel
theorem d_MD_size_1 : decode b_MD_size 1 = .ok (.iconst (0), 1) := by decide +kernel
theorem d_MD_size_2 : decode b_MD_size 2 = .ok (.putfield 56, 3) := by decide +kernel
theorem d_MD_size_5 : decode b_MD_size 5 = .ok (.aload_n 0, 1) := by decide +kernel
theorem d_MD_size_6 : decode b_MD_size 6 = .ok (.getfield 159, 3) := by decide +kernel
theorem d_MD_size_9 : decode b_MD_size 9 = .ok (.ireturn, 1) := by decide +kernel
theorem s_MD_size_0 {E : mm_E} {Γ : mm_G} {lev kc ks ca sa : Nat} {w : mm_W} {f : mm_F} {Post : Option Value → mm_W → mm_F → Prop} (h : mm_ok E Γ b_MD_size 1 "PlannedTablesModel" lev kc ks) (he : mm_end E Γ (some .int) kc ks Post y_MD_size.name) (hca : ca ≤ kc) (hsa : sa ≤ ks) (hw : mm_sh w)  (k0 : Post (some (.int ((mm_up f 136 0 0) 136 30))) w (mm_up f 136 0 0)) : mm_go E Γ 1 0 [(0, mm_rf E 136)] [] w f ca sa := by
  refine mm_aload_n h d_MD_size_0 0 rfl rfl ?_
  refine mm_iconst (v := 0) h d_MD_size_1 (by decide) ?_
  refine mm_puti h fl_MD_56 (Or.inl rfl) rfl rfl rfl (is_MO hw) d_MD_size_2 ?_
  refine mm_aload_n h d_MD_size_5 0 rfl rfl ?_
  refine mm_geti h fl_MD_159 rfl (is_MO hw) d_MD_size_6 ?_
  exact mm_iret h he rfl d_MD_size_9 hca hsa k0
theorem d_MD_out_0 : decode b_MD_out 0 = .ok (.aload_n 0, 1) := by decide +kernel
theorem d_MD_out_1 : decode b_MD_out 1 = .ok (.iconst (0), 1) := by decide +kernel
theorem d_MD_out_2 : decode b_MD_out 2 = .ok (.putfield 56, 3) := by decide +kernel
theorem d_MD_out_5 : decode b_MD_out 5 = .ok (.iload_n 1, 1) := by decide +kernel
theorem d_MD_out_6 : decode b_MD_out 6 = .ok (.ifCond .lt (20), 3) := by decide +kernel
theorem d_MD_out_9 : decode b_MD_out 9 = .ok (.iload_n 1, 1) := by decide +kernel
theorem d_MD_out_10 : decode b_MD_out 10 = .ok (.aload_n 0, 1) := by decide +kernel
theorem d_MD_out_11 : decode b_MD_out 11 = .ok (.getfield 159, 3) := by decide +kernel
theorem d_MD_out_14 : decode b_MD_out 14 = .ok (.if_icmp .ge (12), 3) := by decide +kernel
theorem d_MD_out_17 : decode b_MD_out 17 = .ok (.aload_n 0, 1) := by decide +kernel
theorem d_MD_out_18 : decode b_MD_out 18 = .ok (.getfield 53, 3) := by decide +kernel
theorem d_MD_out_21 : decode b_MD_out 21 = .ok (.iload_n 1, 1) := by decide +kernel
theorem d_MD_out_22 : decode b_MD_out 22 = .ok (.iaload, 1) := by decide +kernel
theorem d_MD_out_23 : decode b_MD_out 23 = .ok (.goto (4), 3) := by decide +kernel
theorem d_MD_out_26 : decode b_MD_out 26 = .ok (.iconst (0), 1) := by decide +kernel
theorem d_MD_out_27 : decode b_MD_out 27 = .ok (.ireturn, 1) := by decide +kernel
theorem s_MD_out_0 {E : mm_E} {Γ : mm_G} {lev kc ks ca sa : Nat} {w : mm_W} {f : mm_F} (h : mm_ok E Γ b_MD_out 2 "PlannedTablesModel" lev kc ks) (hw : mm_sh w) {x1 : Int32} (k0 : x1 < 0 → mm_go E Γ 2 26 [(0, mm_rf E 136), (1, .int x1)] [] w (mm_up f 136 0 0) ca sa) (k1 : ¬ x1 < 0 → ((mm_up f 136 0 0) 136 30) ≤ x1 → mm_go E Γ 2 26 [(0, mm_rf E 136), (1, .int x1)] [] w (mm_up f 136 0 0) ca sa) (b2 : ¬ x1 < 0 → ¬ ((mm_up f 136 0 0) 136 30) ≤ x1 → vp_in x1 64) (k3 : ¬ x1 < 0 → ¬ ((mm_up f 136 0 0) 136 30) ≤ x1 → mm_go E Γ 2 27 [(0, mm_rf E 136), (1, .int x1)] [.int ((mm_up f 136 0 0) 151 (x1).toNatClampNeg)] w (mm_up f 136 0 0) ca sa) : mm_go E Γ 2 0 [(0, mm_rf E 136), (1, .int x1)] [] w f ca sa := by
  refine mm_aload_n h d_MD_out_0 0 rfl rfl ?_
  refine mm_iconst (v := 0) h d_MD_out_1 (by decide) ?_
  refine mm_puti h fl_MD_56 (Or.inl rfl) rfl rfl rfl (is_MO hw) d_MD_out_2 ?_
  refine mm_iload_n h d_MD_out_5 1 rfl rfl ?_
  refine mm_if_lt h d_MD_out_6 (tgt := 26) (by decide) (fun c1 => ?_) (fun c1 => ?_)
  · skip
    exact (k0 c1)
  · skip
    refine mm_iload_n h d_MD_out_9 1 rfl rfl ?_
    refine mm_aload_n h d_MD_out_10 0 rfl rfl ?_
    refine mm_geti h fl_MD_159 rfl (is_MO hw) d_MD_out_11 ?_
    refine mm_icmp_ge h d_MD_out_14 (tgt := 26) (by decide) (fun c2 => ?_) (fun c2 => ?_)
    · skip
      exact (k1 c1 c2)
    · skip
      refine mm_aload_n h d_MD_out_17 0 rfl rfl ?_
      refine mm_getr h fl_MD_53 rfl (is_MO hw) (rf_MO_output hw) (is_Moutput hw).1.1 d_MD_out_18 ?_
      refine mm_iload_n h d_MD_out_21 1 rfl rfl ?_
      refine mm_iald h (is_Moutput hw) (b2 c1 c2) d_MD_out_22 ?_
      refine mm_goto h d_MD_out_23 (tgt := 27) (by decide) ?_
      exact (k3 c1 c2)
theorem s_MD_out_26 {E : mm_E} {Γ : mm_G} {lev kc ks ca sa : Nat} {w : mm_W} {f : mm_F} (h : mm_ok E Γ b_MD_out 2 "PlannedTablesModel" lev kc ks) (hw : mm_sh w) {x1 : Int32} (k0 : mm_go E Γ 2 27 [(0, mm_rf E 136), (1, .int x1)] [.int 0] w f ca sa) : mm_go E Γ 2 26 [(0, mm_rf E 136), (1, .int x1)] [] w f ca sa := by
  refine mm_iconst (v := 0) h d_MD_out_26 (by decide) ?_
  exact k0
theorem s_MD_out_27 {E : mm_E} {Γ : mm_G} {lev kc ks ca sa : Nat} {w : mm_W} {f : mm_F} {Post : Option Value → mm_W → mm_F → Prop} (h : mm_ok E Γ b_MD_out 2 "PlannedTablesModel" lev kc ks) (he : mm_end E Γ (some .int) kc ks Post y_MD_out.name) (hca : ca ≤ kc) (hsa : sa ≤ ks) (hw : mm_sh w) {x1 : Int32} {xk0 : Int32} (k0 : Post (some (.int xk0)) w f) : mm_go E Γ 2 27 [(0, mm_rf E 136), (1, .int x1)] [.int xk0] w f ca sa := by
  exact mm_iret h he rfl d_MD_out_27 hca hsa k0
