/-! Segments. -/
theorem d_TB_hasColumn_0 : decode b_TB_hasColumn 0 = .ok (.iload_n 1, 1) := by decide +kernel
theorem d_TB_hasColumn_1 : decode b_TB_hasColumn 1 = .ok (.ifCond .lt (15), 3) := by decide +kernel
theorem d_TB_hasColumn_4 : decode b_TB_hasColumn 4 = .ok (.iload_n 1, 1) := by decide +kernel
theorem d_TB_hasColumn_5 : decode b_TB_hasColumn 5 = .ok (.aload_n 0, 1) := by decide +kernel
theorem d_TB_hasColumn_6 : decode b_TB_hasColumn 6 = .ok (.getfield 23, 3) := by decide +kernel
theorem d_TB_hasColumn_9 : decode b_TB_hasColumn 9 = .ok (.if_icmp .ge (7), 3) := by decide +kernel
theorem d_TB_hasColumn_12 : decode b_TB_hasColumn 12 = .ok (.iconst (1), 1) := by decide +kernel
theorem d_TB_hasColumn_13 : decode b_TB_hasColumn 13 = .ok (.goto (4), 3) := by decide +kernel
theorem d_TB_hasColumn_16 : decode b_TB_hasColumn 16 = .ok (.iconst (0), 1) := by decide +kernel
theorem d_TB_hasColumn_17 : decode b_TB_hasColumn 17 = .ok (.ireturn, 1) := by decide +kernel
theorem s_TB_hasColumn_0 {E : mm_E} {Γ : mm_G} {lev kc ks ca sa : Nat} {w : mm_W} {f : mm_F} (h : mm_ok E Γ b_TB_hasColumn 2 "PlannedTables$Table" lev kc ks) (hw : mm_sh w) {t0 : Nat} (ht0 : t0 < 4) {x1 : Int32} (k0 : x1 < 0 → mm_go E Γ 2 16 [(0, mm_rf E (4 + 12 * t0)), (1, .int x1)] [] w f ca sa) (k1 : ¬ x1 < 0 → (f (4 + 12 * t0) 0) ≤ x1 → mm_go E Γ 2 16 [(0, mm_rf E (4 + 12 * t0)), (1, .int x1)] [] w f ca sa) (k2 : ¬ x1 < 0 → ¬ (f (4 + 12 * t0) 0) ≤ x1 → mm_go E Γ 2 17 [(0, mm_rf E (4 + 12 * t0)), (1, .int x1)] [.int 1] w f ca sa) : mm_go E Γ 2 0 [(0, mm_rf E (4 + 12 * t0)), (1, .int x1)] [] w f ca sa := by
  refine mm_iload_n h d_TB_hasColumn_0 1 rfl rfl ?_
  refine mm_if_lt h d_TB_hasColumn_1 (tgt := 16) (by decide) (fun c1 => ?_) (fun c1 => ?_)
  · skip
    exact (k0 c1)
  · skip
    refine mm_iload_n h d_TB_hasColumn_4 1 rfl rfl ?_
    refine mm_aload_n h d_TB_hasColumn_5 0 rfl rfl ?_
    refine mm_geti h fl_TB_23 rfl (is_T hw ht0) d_TB_hasColumn_6 ?_
    refine mm_icmp_ge h d_TB_hasColumn_9 (tgt := 16) (by decide) (fun c2 => ?_) (fun c2 => ?_)
    · skip
      exact (k1 c1 c2)
    · skip
      refine mm_iconst (v := 1) h d_TB_hasColumn_12 (by decide) ?_
      refine mm_goto h d_TB_hasColumn_13 (tgt := 17) (by decide) ?_
      exact (k2 c1 c2)
theorem s_TB_hasColumn_16 {E : mm_E} {Γ : mm_G} {lev kc ks ca sa : Nat} {w : mm_W} {f : mm_F} (h : mm_ok E Γ b_TB_hasColumn 2 "PlannedTables$Table" lev kc ks) (hw : mm_sh w) {t0 : Nat} (ht0 : t0 < 4) {x1 : Int32} (k0 : mm_go E Γ 2 17 [(0, mm_rf E (4 + 12 * t0)), (1, .int x1)] [.int 0] w f ca sa) : mm_go E Γ 2 16 [(0, mm_rf E (4 + 12 * t0)), (1, .int x1)] [] w f ca sa := by
  refine mm_iconst (v := 0) h d_TB_hasColumn_16 (by decide) ?_
  exact k0
theorem s_TB_hasColumn_17 {E : mm_E} {Γ : mm_G} {lev kc ks ca sa : Nat} {w : mm_W} {f : mm_F} {Post : Option Value → mm_W → mm_F → Prop} (h : mm_ok E Γ b_TB_hasColumn 2 "PlannedTables$Table" lev kc ks) (he : mm_end E Γ (some .boolean) kc ks Post y_TB_hasColumn.name) (hca : ca ≤ kc) (hsa : sa ≤ ks) (hw : mm_sh w) {t0 : Nat} (ht0 : t0 < 4) {x1 : Int32} {xk0 : Int32} (k0 : Post (some (.int xk0)) w f) (n1 : narrow .boolean (.int xk0) = .int xk0) : mm_go E Γ 2 17 [(0, mm_rf E (4 + 12 * t0)), (1, .int x1)] [.int xk0] w f ca sa := by
  exact mm_iret h he n1 d_TB_hasColumn_17 hca hsa k0
theorem d_TB_cellAt_0 : decode b_TB_cellAt 0 = .ok (.aload_n 0, 1) := by decide +kernel
theorem d_TB_cellAt_1 : decode b_TB_cellAt 1 = .ok (.getfield 17, 3) := by decide +kernel
theorem d_TB_cellAt_4 : decode b_TB_cellAt 4 = .ok (.iload_n 1, 1) := by decide +kernel
theorem d_TB_cellAt_5 : decode b_TB_cellAt 5 = .ok (.aaload, 1) := by decide +kernel
theorem d_TB_cellAt_6 : decode b_TB_cellAt 6 = .ok (.aload_n 0, 1) := by decide +kernel
theorem d_TB_cellAt_7 : decode b_TB_cellAt 7 = .ok (.getfield 20, 3) := by decide +kernel
theorem d_TB_cellAt_10 : decode b_TB_cellAt 10 = .ok (.iload_n 1, 1) := by decide +kernel
theorem d_TB_cellAt_11 : decode b_TB_cellAt 11 = .ok (.aaload, 1) := by decide +kernel
theorem d_TB_cellAt_12 : decode b_TB_cellAt 12 = .ok (.iload_n 2, 1) := by decide +kernel
theorem d_TB_cellAt_13 : decode b_TB_cellAt 13 = .ok (.iaload, 1) := by decide +kernel
theorem d_TB_cellAt_14 : decode b_TB_cellAt 14 = .ok (.iaload, 1) := by decide +kernel
theorem d_TB_cellAt_15 : decode b_TB_cellAt 15 = .ok (.ireturn, 1) := by decide +kernel
theorem s_TB_cellAt_0 {E : mm_E} {Γ : mm_G} {lev kc ks ca sa : Nat} {w : mm_W} {f : mm_F} {Post : Option Value → mm_W → mm_F → Prop} (h : mm_ok E Γ b_TB_cellAt 3 "PlannedTables$Table" lev kc ks) (he : mm_end E Γ (some .int) kc ks Post y_TB_cellAt.name) (hca : ca ≤ kc) (hsa : sa ≤ ks) (hw : mm_sh w) {t0 : Nat} (ht0 : t0 < 4) {x1 : Int32} {x2 : Int32} (b0 : vp_in x1 4) (b1 : vp_in x2 48) (b2 : vp_in (f (12 + 12 * t0 + (x1).toNatClampNeg) (x2).toNatClampNeg) 48) (k3 : Post (some (.int (f (7 + 12 * t0 + (x1).toNatClampNeg) ((f (12 + 12 * t0 + (x1).toNatClampNeg) (x2).toNatClampNeg)).toNatClampNeg))) w f) : mm_go E Γ 3 0 [(0, mm_rf E (4 + 12 * t0)), (1, .int x1), (2, .int x2)] [] w f ca sa := by
  refine mm_aload_n h d_TB_cellAt_0 0 rfl rfl ?_
  refine mm_getr h fl_TB_17 rfl (is_T hw ht0) (rf_T_cells hw ht0) (is_TC hw ht0).1.1 d_TB_cellAt_1 ?_
  refine mm_iload_n h d_TB_cellAt_4 1 rfl rfl ?_
  refine mm_aald h 3 rfl rfl rfl (fun _ => rfl) (is_TC hw ht0) b0 (ra_TC hw ht0 (mm_in_lt b0)) (is_TK hw ht0 (mm_in_lt b0)).1.1 d_TB_cellAt_5 ?_
  refine mm_aload_n h d_TB_cellAt_6 0 rfl rfl ?_
  refine mm_getr h fl_TB_20 rfl (is_T hw ht0) (rf_T_order hw ht0) (is_TO hw ht0).1.1 d_TB_cellAt_7 ?_
  refine mm_iload_n h d_TB_cellAt_10 1 rfl rfl ?_
  refine mm_aald h 3 rfl rfl rfl (fun _ => rfl) (is_TO hw ht0) b0 (ra_TO hw ht0 (mm_in_lt b0)) (is_TP hw ht0 (mm_in_lt b0)).1.1 d_TB_cellAt_11 ?_
  refine mm_iload_n h d_TB_cellAt_12 2 rfl rfl ?_
  refine mm_iald h (is_TP hw ht0 (mm_in_lt b0)) b1 d_TB_cellAt_13 ?_
  refine mm_iald h (is_TK hw ht0 (mm_in_lt b0)) b2 d_TB_cellAt_14 ?_
  exact mm_iret h he rfl d_TB_cellAt_15 hca hsa k3
theorem d_TB_placeFrom_0 : decode b_TB_placeFrom 0 = .ok (.iconst (0), 1) := by decide +kernel
theorem d_TB_placeFrom_1 : decode b_TB_placeFrom 1 = .ok (.istore_n 3, 1) := by decide +kernel
theorem d_TB_placeFrom_2 : decode b_TB_placeFrom 2 = .ok (.bipush (32), 2) := by decide +kernel
theorem d_TB_placeFrom_4 : decode b_TB_placeFrom 4 = .ok (.istore 4, 2) := by decide +kernel
theorem d_TB_placeFrom_6 : decode b_TB_placeFrom 6 = .ok (.iload 4, 2) := by decide +kernel
theorem d_TB_placeFrom_8 : decode b_TB_placeFrom 8 = .ok (.ifCond .le (43), 3) := by decide +kernel
theorem d_TB_placeFrom_11 : decode b_TB_placeFrom 11 = .ok (.iload_n 3, 1) := by decide +kernel
theorem d_TB_placeFrom_12 : decode b_TB_placeFrom 12 = .ok (.iload 4, 2) := by decide +kernel
theorem d_TB_placeFrom_14 : decode b_TB_placeFrom 14 = .ok (.iadd, 1) := by decide +kernel
theorem d_TB_placeFrom_15 : decode b_TB_placeFrom 15 = .ok (.aload_n 0, 1) := by decide +kernel
theorem d_TB_placeFrom_16 : decode b_TB_placeFrom 16 = .ok (.getfield 27, 3) := by decide +kernel
theorem d_TB_placeFrom_19 : decode b_TB_placeFrom 19 = .ok (.if_icmp .gt (23), 3) := by decide +kernel
theorem d_TB_placeFrom_22 : decode b_TB_placeFrom 22 = .ok (.aload_n 0, 1) := by decide +kernel
theorem d_TB_placeFrom_23 : decode b_TB_placeFrom 23 = .ok (.iload_n 1, 1) := by decide +kernel
theorem d_TB_placeFrom_24 : decode b_TB_placeFrom 24 = .ok (.iload_n 3, 1) := by decide +kernel
theorem d_TB_placeFrom_25 : decode b_TB_placeFrom 25 = .ok (.iload 4, 2) := by decide +kernel
theorem d_TB_placeFrom_27 : decode b_TB_placeFrom 27 = .ok (.iadd, 1) := by decide +kernel
theorem d_TB_placeFrom_28 : decode b_TB_placeFrom 28 = .ok (.iconst (1), 1) := by decide +kernel
theorem d_TB_placeFrom_29 : decode b_TB_placeFrom 29 = .ok (.isub, 1) := by decide +kernel
theorem d_TB_placeFrom_30 : decode b_TB_placeFrom 30 = .ok (.invokevirtual 30, 3) := by decide +kernel
theorem d_TB_placeFrom_33 : decode b_TB_placeFrom 33 = .ok (.iload_n 2, 1) := by decide +kernel
theorem d_TB_placeFrom_34 : decode b_TB_placeFrom 34 = .ok (.if_icmp .ge (8), 3) := by decide +kernel
theorem d_TB_placeFrom_37 : decode b_TB_placeFrom 37 = .ok (.iload_n 3, 1) := by decide +kernel
theorem d_TB_placeFrom_38 : decode b_TB_placeFrom 38 = .ok (.iload 4, 2) := by decide +kernel
theorem d_TB_placeFrom_40 : decode b_TB_placeFrom 40 = .ok (.iadd, 1) := by decide +kernel
theorem d_TB_placeFrom_41 : decode b_TB_placeFrom 41 = .ok (.istore_n 3, 1) := by decide +kernel
theorem d_TB_placeFrom_42 : decode b_TB_placeFrom 42 = .ok (.iload 4, 2) := by decide +kernel
theorem d_TB_placeFrom_44 : decode b_TB_placeFrom 44 = .ok (.iconst (1), 1) := by decide +kernel
theorem d_TB_placeFrom_45 : decode b_TB_placeFrom 45 = .ok (.ishr, 1) := by decide +kernel
theorem d_TB_placeFrom_46 : decode b_TB_placeFrom 46 = .ok (.istore 4, 2) := by decide +kernel
theorem d_TB_placeFrom_48 : decode b_TB_placeFrom 48 = .ok (.goto (-42), 3) := by decide +kernel
theorem d_TB_placeFrom_51 : decode b_TB_placeFrom 51 = .ok (.iload_n 3, 1) := by decide +kernel
theorem d_TB_placeFrom_52 : decode b_TB_placeFrom 52 = .ok (.ireturn, 1) := by decide +kernel
theorem s_TB_placeFrom_0 {E : mm_E} {Γ : mm_G} {lev kc ks ca sa : Nat} {w : mm_W} {f : mm_F} (h : mm_ok E Γ b_TB_placeFrom 5 "PlannedTables$Table" lev kc ks) (hw : mm_sh w) {t0 : Nat} (ht0 : t0 < 4) {x1 : Int32} {x2 : Int32} (k0 : mm_go E Γ 5 6 [(0, mm_rf E (4 + 12 * t0)), (1, .int x1), (2, .int x2), (3, .int 0), (4, .int 32)] [] w f ca sa) : mm_go E Γ 5 0 [(0, mm_rf E (4 + 12 * t0)), (1, .int x1), (2, .int x2)] [] w f ca sa := by
  refine mm_iconst (v := 0) h d_TB_placeFrom_0 (by decide) ?_
  refine mm_istore_n (lv' := [(3, .int 0), (0, mm_rf E (4 + 12 * t0)), (1, .int x1), (2, .int x2)]) h d_TB_placeFrom_1 rfl (by decide) rfl ?_
  refine mm_bipush (v := 32) h d_TB_placeFrom_2 (by decide) ?_
  refine mm_istore (lv' := [(4, .int 32), (3, .int 0), (0, mm_rf E (4 + 12 * t0)), (1, .int x1), (2, .int x2)]) h d_TB_placeFrom_4 (by decide) rfl ?_
  refine mm_sub [2, 3, 4, 1, 0] rfl ?_
  exact k0
theorem s_TB_placeFrom_6 {E : mm_E} {Γ : mm_G} {lev kc ks ca sa : Nat} {w : mm_W} {f : mm_F} {Post : Option Value → mm_W → mm_F → Prop} (h : mm_ok E Γ b_TB_placeFrom 5 "PlannedTables$Table" lev kc ks) (he : mm_end E Γ (some .int) kc ks Post y_TB_placeFrom.name) (hca : ca ≤ kc) (hsa : sa ≤ ks) (hw : mm_sh w) {t0 : Nat} (ht0 : t0 < 4) {x1 : Int32} {x2 : Int32} {x3 : Int32} {x4 : Int32} (k0 : x4 ≤ 0 → Post (some (.int x3)) w f) (k1 : ¬ x4 ≤ 0 → (f (4 + 12 * t0) 1) < (x3 + x4) → mm_go E Γ 5 42 [(0, mm_rf E (4 + 12 * t0)), (1, .int x1), (2, .int x2), (3, .int x3), (4, .int x4)] [] w f ca sa) {vl0 vc0 vs0 : Nat} {P0 : Option Value → mm_W → mm_F → Prop} (hl0 : vl0 < lev) (hu0 : ca + vc0 ≤ kc) (hz0 : sa + vs0 ≤ ks) (m2 : ¬ x4 ≤ 0 → ¬ (f (4 + 12 * t0) 1) < (x3 + x4) → mm_C E y_TB_cellAt b_TB_cellAt 3 (some .int) vl0 vc0 vs0 [mm_rf E (4 + 12 * t0), .int x1, .int ((x3 + x4) - 1)] w f P0) (k3 : ¬ x4 ≤ 0 → ¬ (f (4 + 12 * t0) 1) < (x3 + x4) → ∀ (r : Option Value) (w1 : mm_W) (f1 : mm_F), P0 r w1 f1 → mm_go E Γ 5 33 [(0, mm_rf E (4 + 12 * t0)), (1, .int x1), (2, .int x2), (3, .int x3), (4, .int x4)] (r.toList ++ []) w1 f1 (ca + vc0) (sa + vs0)) : mm_go E Γ 5 6 [(0, mm_rf E (4 + 12 * t0)), (1, .int x1), (2, .int x2), (3, .int x3), (4, .int x4)] [] w f ca sa := by
  refine mm_iload h d_TB_placeFrom_6 4 rfl ?_
  refine mm_if_le h d_TB_placeFrom_8 (tgt := 51) (by decide) (fun c1 => ?_) (fun c1 => ?_)
  · skip
    refine mm_iload_n h d_TB_placeFrom_51 3 rfl rfl ?_
    exact mm_iret h he rfl d_TB_placeFrom_52 hca hsa (k0 c1)
  · skip
    refine mm_iload_n h d_TB_placeFrom_11 3 rfl rfl ?_
    refine mm_iload h d_TB_placeFrom_12 4 rfl ?_
    refine mm_iadd h d_TB_placeFrom_14 ?_
    refine mm_aload_n h d_TB_placeFrom_15 0 rfl rfl ?_
    refine mm_geti h fl_TB_27 rfl (is_T hw ht0) d_TB_placeFrom_16 ?_
    refine mm_icmp_gt h d_TB_placeFrom_19 (tgt := 42) (by decide) (fun c2 => ?_) (fun c2 => ?_)
    · skip
      exact (k1 c1 c2)
    · skip
      refine mm_aload_n h d_TB_placeFrom_22 0 rfl rfl ?_
      refine mm_iload_n h d_TB_placeFrom_23 1 rfl rfl ?_
      refine mm_iload_n h d_TB_placeFrom_24 3 rfl rfl ?_
      refine mm_iload h d_TB_placeFrom_25 4 rfl ?_
      refine mm_iadd h d_TB_placeFrom_27 ?_
      refine mm_iconst (v := 1) h d_TB_placeFrom_28 (by decide) ?_
      refine mm_isub h d_TB_placeFrom_29 ?_
      exact mm_callV (As := [.int x1, .int ((x3 + x4) - 1)]) (rest := []) h (m2 c1 c2) cv_TB_30 cm_TB_cellAt hl0 (q0 := _) rfl rfl (is_T hw ht0) hu0 hz0 rfl rfl (Nat.le_of_ble_eq_true rfl) d_TB_placeFrom_30 (fun r w1 f1 hp => (k3 c1 c2) r w1 f1 hp)
theorem s_TB_placeFrom_33 {E : mm_E} {Γ : mm_G} {lev kc ks ca sa : Nat} {w : mm_W} {f : mm_F} (h : mm_ok E Γ b_TB_placeFrom 5 "PlannedTables$Table" lev kc ks) (hw : mm_sh w) {t0 : Nat} (ht0 : t0 < 4) {x1 : Int32} {x2 : Int32} {x3 : Int32} {x4 : Int32} {xk0 : Int32} (k0 : x2 ≤ xk0 → mm_go E Γ 5 42 [(0, mm_rf E (4 + 12 * t0)), (1, .int x1), (2, .int x2), (3, .int x3), (4, .int x4)] [] w f ca sa) (k1 : ¬ x2 ≤ xk0 → mm_go E Γ 5 42 [(0, mm_rf E (4 + 12 * t0)), (1, .int x1), (2, .int x2), (3, .int (x3 + x4)), (4, .int x4)] [] w f ca sa) : mm_go E Γ 5 33 [(0, mm_rf E (4 + 12 * t0)), (1, .int x1), (2, .int x2), (3, .int x3), (4, .int x4)] [.int xk0] w f ca sa := by
  refine mm_iload_n h d_TB_placeFrom_33 2 rfl rfl ?_
  refine mm_icmp_ge h d_TB_placeFrom_34 (tgt := 42) (by decide) (fun c1 => ?_) (fun c1 => ?_)
  · skip
    exact (k0 c1)
  · skip
    refine mm_iload_n h d_TB_placeFrom_37 3 rfl rfl ?_
    refine mm_iload h d_TB_placeFrom_38 4 rfl ?_
    refine mm_iadd h d_TB_placeFrom_40 ?_
    refine mm_istore_n (lv' := [(3, .int (x3 + x4)), (0, mm_rf E (4 + 12 * t0)), (1, .int x1), (2, .int x2), (4, .int x4)]) h d_TB_placeFrom_41 rfl (by decide) rfl ?_
    refine mm_sub [1, 2, 3, 0, 4] rfl ?_
    exact (k1 c1)
theorem s_TB_placeFrom_42 {E : mm_E} {Γ : mm_G} {lev kc ks ca sa : Nat} {w : mm_W} {f : mm_F} (h : mm_ok E Γ b_TB_placeFrom 5 "PlannedTables$Table" lev kc ks) (hw : mm_sh w) {t0 : Nat} (ht0 : t0 < 4) {x1 : Int32} {x2 : Int32} {x3 : Int32} {x4 : Int32} (k0 : mm_go E Γ 5 6 [(0, mm_rf E (4 + 12 * t0)), (1, .int x1), (2, .int x2), (3, .int x3), (4, .int (x4 >>> (1 &&& 31)))] [] w f ca sa) : mm_go E Γ 5 42 [(0, mm_rf E (4 + 12 * t0)), (1, .int x1), (2, .int x2), (3, .int x3), (4, .int x4)] [] w f ca sa := by
  refine mm_iload h d_TB_placeFrom_42 4 rfl ?_
  refine mm_iconst (v := 1) h d_TB_placeFrom_44 (by decide) ?_
  refine mm_ishr h d_TB_placeFrom_45 ?_
  refine mm_istore (lv' := [(4, .int (x4 >>> (1 &&& 31))), (0, mm_rf E (4 + 12 * t0)), (1, .int x1), (2, .int x2), (3, .int x3)]) h d_TB_placeFrom_46 (by decide) rfl ?_
  refine mm_goto h d_TB_placeFrom_48 (tgt := 6) (by decide) ?_
  refine mm_sub [1, 2, 3, 4, 0] rfl ?_
  exact k0
theorem d_TB_slotOf_0 : decode b_TB_slotOf 0 = .ok (.aload_n 0, 1) := by decide +kernel
theorem d_TB_slotOf_1 : decode b_TB_slotOf 1 = .ok (.iconst (0), 1) := by decide +kernel
theorem d_TB_slotOf_2 : decode b_TB_slotOf 2 = .ok (.iload_n 1, 1) := by decide +kernel
theorem d_TB_slotOf_3 : decode b_TB_slotOf 3 = .ok (.invokevirtual 34, 3) := by decide +kernel
theorem d_TB_slotOf_6 : decode b_TB_slotOf 6 = .ok (.istore_n 2, 1) := by decide +kernel
theorem d_TB_slotOf_7 : decode b_TB_slotOf 7 = .ok (.iload_n 2, 1) := by decide +kernel
theorem d_TB_slotOf_8 : decode b_TB_slotOf 8 = .ok (.aload_n 0, 1) := by decide +kernel
theorem d_TB_slotOf_9 : decode b_TB_slotOf 9 = .ok (.getfield 27, 3) := by decide +kernel
theorem d_TB_slotOf_12 : decode b_TB_slotOf 12 = .ok (.if_icmp .ge (24), 3) := by decide +kernel
theorem d_TB_slotOf_15 : decode b_TB_slotOf 15 = .ok (.aload_n 0, 1) := by decide +kernel
theorem d_TB_slotOf_16 : decode b_TB_slotOf 16 = .ok (.iconst (0), 1) := by decide +kernel
theorem d_TB_slotOf_17 : decode b_TB_slotOf 17 = .ok (.iload_n 2, 1) := by decide +kernel
theorem d_TB_slotOf_18 : decode b_TB_slotOf 18 = .ok (.invokevirtual 30, 3) := by decide +kernel
theorem d_TB_slotOf_21 : decode b_TB_slotOf 21 = .ok (.iload_n 1, 1) := by decide +kernel
theorem d_TB_slotOf_22 : decode b_TB_slotOf 22 = .ok (.if_icmp .ne (14), 3) := by decide +kernel
theorem d_TB_slotOf_25 : decode b_TB_slotOf 25 = .ok (.aload_n 0, 1) := by decide +kernel
theorem d_TB_slotOf_26 : decode b_TB_slotOf 26 = .ok (.getfield 20, 3) := by decide +kernel
theorem d_TB_slotOf_29 : decode b_TB_slotOf 29 = .ok (.iconst (0), 1) := by decide +kernel
theorem d_TB_slotOf_30 : decode b_TB_slotOf 30 = .ok (.aaload, 1) := by decide +kernel
theorem d_TB_slotOf_31 : decode b_TB_slotOf 31 = .ok (.iload_n 2, 1) := by decide +kernel
theorem d_TB_slotOf_32 : decode b_TB_slotOf 32 = .ok (.iaload, 1) := by decide +kernel
theorem d_TB_slotOf_33 : decode b_TB_slotOf 33 = .ok (.goto (4), 3) := by decide +kernel
theorem d_TB_slotOf_36 : decode b_TB_slotOf 36 = .ok (.iconst (-1), 1) := by decide +kernel
theorem d_TB_slotOf_37 : decode b_TB_slotOf 37 = .ok (.ireturn, 1) := by decide +kernel
theorem s_TB_slotOf_0 {E : mm_E} {Γ : mm_G} {lev kc ks ca sa : Nat} {w : mm_W} {f : mm_F} (h : mm_ok E Γ b_TB_slotOf 3 "PlannedTables$Table" lev kc ks) (hw : mm_sh w) {t0 : Nat} (ht0 : t0 < 4) {x1 : Int32} {vl0 vc0 vs0 : Nat} {P0 : Option Value → mm_W → mm_F → Prop} (hl0 : vl0 < lev) (hu0 : ca + vc0 ≤ kc) (hz0 : sa + vs0 ≤ ks) (m0 : mm_C E y_TB_placeFrom b_TB_placeFrom 5 (some .int) vl0 vc0 vs0 [mm_rf E (4 + 12 * t0), .int 0, .int x1] w f P0) (k1 : ∀ (r : Option Value) (w1 : mm_W) (f1 : mm_F), P0 r w1 f1 → mm_go E Γ 3 6 [(0, mm_rf E (4 + 12 * t0)), (1, .int x1)] (r.toList ++ []) w1 f1 (ca + vc0) (sa + vs0)) : mm_go E Γ 3 0 [(0, mm_rf E (4 + 12 * t0)), (1, .int x1)] [] w f ca sa := by
  refine mm_aload_n h d_TB_slotOf_0 0 rfl rfl ?_
  refine mm_iconst (v := 0) h d_TB_slotOf_1 (by decide) ?_
  refine mm_iload_n h d_TB_slotOf_2 1 rfl rfl ?_
  exact mm_callV (As := [.int 0, .int x1]) (rest := []) h m0 cv_TB_34 cm_TB_placeFrom hl0 (q0 := _) rfl rfl (is_T hw ht0) hu0 hz0 rfl rfl (Nat.le_of_ble_eq_true rfl) d_TB_slotOf_3 (fun r w1 f1 hp => k1 r w1 f1 hp)
theorem s_TB_slotOf_6 {E : mm_E} {Γ : mm_G} {lev kc ks ca sa : Nat} {w : mm_W} {f : mm_F} (h : mm_ok E Γ b_TB_slotOf 3 "PlannedTables$Table" lev kc ks) (hw : mm_sh w) {t0 : Nat} (ht0 : t0 < 4) {x1 : Int32} {xk0 : Int32} (k0 : (f (4 + 12 * t0) 1) ≤ xk0 → mm_go E Γ 3 36 [(0, mm_rf E (4 + 12 * t0)), (1, .int x1), (2, .int xk0)] [] w f ca sa) {vl0 vc0 vs0 : Nat} {P0 : Option Value → mm_W → mm_F → Prop} (hl0 : vl0 < lev) (hu0 : ca + vc0 ≤ kc) (hz0 : sa + vs0 ≤ ks) (m1 : ¬ (f (4 + 12 * t0) 1) ≤ xk0 → mm_C E y_TB_cellAt b_TB_cellAt 3 (some .int) vl0 vc0 vs0 [mm_rf E (4 + 12 * t0), .int 0, .int xk0] w f P0) (k2 : ¬ (f (4 + 12 * t0) 1) ≤ xk0 → ∀ (r : Option Value) (w1 : mm_W) (f1 : mm_F), P0 r w1 f1 → mm_go E Γ 3 21 [(0, mm_rf E (4 + 12 * t0)), (1, .int x1), (2, .int xk0)] (r.toList ++ []) w1 f1 (ca + vc0) (sa + vs0)) : mm_go E Γ 3 6 [(0, mm_rf E (4 + 12 * t0)), (1, .int x1)] [.int xk0] w f ca sa := by
  refine mm_istore_n (lv' := [(2, .int xk0), (0, mm_rf E (4 + 12 * t0)), (1, .int x1)]) h d_TB_slotOf_6 rfl (by decide) rfl ?_
  refine mm_iload_n h d_TB_slotOf_7 0 rfl rfl ?_
  refine mm_aload_n h d_TB_slotOf_8 1 rfl rfl ?_
  refine mm_geti h fl_TB_27 rfl (is_T hw ht0) d_TB_slotOf_9 ?_
  refine mm_icmp_ge h d_TB_slotOf_12 (tgt := 36) (by decide) (fun c1 => ?_) (fun c1 => ?_)
  · skip
    refine mm_sub [1, 2, 0] rfl ?_
    exact (k0 c1)
  · skip
    refine mm_aload_n h d_TB_slotOf_15 1 rfl rfl ?_
    refine mm_iconst (v := 0) h d_TB_slotOf_16 (by decide) ?_
    refine mm_iload_n h d_TB_slotOf_17 0 rfl rfl ?_
    exact mm_callV (As := [.int 0, .int xk0]) (rest := []) h (m1 c1) cv_TB_30 cm_TB_cellAt hl0 (q0 := _) rfl rfl (is_T hw ht0) hu0 hz0 rfl rfl (Nat.le_of_ble_eq_true rfl) d_TB_slotOf_18 (fun r w1 f1 hp => mm_sub [1, 2, 0] rfl ((k2 c1) r w1 f1 hp))
theorem s_TB_slotOf_21 {E : mm_E} {Γ : mm_G} {lev kc ks ca sa : Nat} {w : mm_W} {f : mm_F} (h : mm_ok E Γ b_TB_slotOf 3 "PlannedTables$Table" lev kc ks) (hw : mm_sh w) {t0 : Nat} (ht0 : t0 < 4) {x1 : Int32} {x2 : Int32} {xk0 : Int32} (k0 : ¬ xk0 = x1 → mm_go E Γ 3 36 [(0, mm_rf E (4 + 12 * t0)), (1, .int x1), (2, .int x2)] [] w f ca sa) (b1 : xk0 = x1 → vp_in x2 48) (k2 : xk0 = x1 → mm_go E Γ 3 37 [(0, mm_rf E (4 + 12 * t0)), (1, .int x1), (2, .int x2)] [.int (f (12 + 12 * t0 + 0) (x2).toNatClampNeg)] w f ca sa) : mm_go E Γ 3 21 [(0, mm_rf E (4 + 12 * t0)), (1, .int x1), (2, .int x2)] [.int xk0] w f ca sa := by
  refine mm_iload_n h d_TB_slotOf_21 1 rfl rfl ?_
  refine mm_icmp_ne h d_TB_slotOf_22 (tgt := 36) (by decide) (fun c1 => ?_) (fun c1 => ?_)
  · skip
    exact (k0 c1)
  · skip
    refine mm_aload_n h d_TB_slotOf_25 0 rfl rfl ?_
    refine mm_getr h fl_TB_20 rfl (is_T hw ht0) (rf_T_order hw ht0) (is_TO hw ht0).1.1 d_TB_slotOf_26 ?_
    refine mm_iconst (v := 0) h d_TB_slotOf_29 (by decide) ?_
    refine mm_aald h 3 rfl rfl rfl (fun _ => rfl) (is_TO hw ht0) (by unfold vp_in; decide) (ra_TO hw ht0 (mm_in_lt (by unfold vp_in; decide))) (is_TP hw ht0 (mm_in_lt (by unfold vp_in; decide))).1.1 d_TB_slotOf_30 ?_
    refine mm_iload_n h d_TB_slotOf_31 2 rfl rfl ?_
    refine mm_iald h (is_TP hw ht0 (mm_in_lt (by unfold vp_in; decide))) (b1 c1) d_TB_slotOf_32 ?_
    refine mm_goto h d_TB_slotOf_33 (tgt := 37) (by decide) ?_
    exact (k2 c1)
theorem s_TB_slotOf_36 {E : mm_E} {Γ : mm_G} {lev kc ks ca sa : Nat} {w : mm_W} {f : mm_F} (h : mm_ok E Γ b_TB_slotOf 3 "PlannedTables$Table" lev kc ks) (hw : mm_sh w) {t0 : Nat} (ht0 : t0 < 4) {x1 : Int32} {x2 : Int32} (k0 : mm_go E Γ 3 37 [(0, mm_rf E (4 + 12 * t0)), (1, .int x1), (2, .int x2)] [.int (-1)] w f ca sa) : mm_go E Γ 3 36 [(0, mm_rf E (4 + 12 * t0)), (1, .int x1), (2, .int x2)] [] w f ca sa := by
  refine mm_iconst (v := (-1)) h d_TB_slotOf_36 (by decide) ?_
  exact k0
theorem s_TB_slotOf_37 {E : mm_E} {Γ : mm_G} {lev kc ks ca sa : Nat} {w : mm_W} {f : mm_F} {Post : Option Value → mm_W → mm_F → Prop} (h : mm_ok E Γ b_TB_slotOf 3 "PlannedTables$Table" lev kc ks) (he : mm_end E Γ (some .int) kc ks Post y_TB_slotOf.name) (hca : ca ≤ kc) (hsa : sa ≤ ks) (hw : mm_sh w) {t0 : Nat} (ht0 : t0 < 4) {x1 : Int32} {x2 : Int32} {xk0 : Int32} (k0 : Post (some (.int xk0)) w f) : mm_go E Γ 3 37 [(0, mm_rf E (4 + 12 * t0)), (1, .int x1), (2, .int x2)] [.int xk0] w f ca sa := by
  exact mm_iret h he rfl d_TB_slotOf_37 hca hsa k0
theorem d_TB_add_0 : decode b_TB_add 0 = .ok (.iconst (0), 1) := by decide +kernel
theorem d_TB_add_1 : decode b_TB_add 1 = .ok (.istore_n 2, 1) := by decide +kernel
theorem d_TB_add_2 : decode b_TB_add 2 = .ok (.iload_n 2, 1) := by decide +kernel
theorem d_TB_add_3 : decode b_TB_add 3 = .ok (.aload_n 0, 1) := by decide +kernel
theorem d_TB_add_4 : decode b_TB_add 4 = .ok (.getfield 23, 3) := by decide +kernel
theorem d_TB_add_7 : decode b_TB_add 7 = .ok (.if_icmp .ge (23), 3) := by decide +kernel
theorem d_TB_add_10 : decode b_TB_add 10 = .ok (.aload_n 0, 1) := by decide +kernel
theorem d_TB_add_11 : decode b_TB_add 11 = .ok (.getfield 17, 3) := by decide +kernel
theorem d_TB_add_14 : decode b_TB_add 14 = .ok (.iload_n 2, 1) := by decide +kernel
theorem d_TB_add_15 : decode b_TB_add 15 = .ok (.aaload, 1) := by decide +kernel
theorem d_TB_add_16 : decode b_TB_add 16 = .ok (.aload_n 0, 1) := by decide +kernel
theorem d_TB_add_17 : decode b_TB_add 17 = .ok (.getfield 27, 3) := by decide +kernel
theorem d_TB_add_20 : decode b_TB_add 20 = .ok (.aload_n 1, 1) := by decide +kernel
theorem d_TB_add_21 : decode b_TB_add 21 = .ok (.iload_n 2, 1) := by decide +kernel
theorem d_TB_add_22 : decode b_TB_add 22 = .ok (.iaload, 1) := by decide +kernel
theorem d_TB_add_23 : decode b_TB_add 23 = .ok (.iastore, 1) := by decide +kernel
theorem d_TB_add_24 : decode b_TB_add 24 = .ok (.iinc 2 (1), 3) := by decide +kernel
theorem d_TB_add_27 : decode b_TB_add 27 = .ok (.goto (-25), 3) := by decide +kernel
theorem d_TB_add_30 : decode b_TB_add 30 = .ok (.iconst (0), 1) := by decide +kernel
theorem d_TB_add_31 : decode b_TB_add 31 = .ok (.istore_n 2, 1) := by decide +kernel
theorem d_TB_add_32 : decode b_TB_add 32 = .ok (.iload_n 2, 1) := by decide +kernel
theorem d_TB_add_33 : decode b_TB_add 33 = .ok (.aload_n 0, 1) := by decide +kernel
theorem d_TB_add_34 : decode b_TB_add 34 = .ok (.getfield 23, 3) := by decide +kernel
theorem d_TB_add_37 : decode b_TB_add 37 = .ok (.if_icmp .ge (18), 3) := by decide +kernel
theorem d_TB_add_40 : decode b_TB_add 40 = .ok (.aload_n 0, 1) := by decide +kernel
theorem d_TB_add_41 : decode b_TB_add 41 = .ok (.iload_n 2, 1) := by decide +kernel
theorem d_TB_add_42 : decode b_TB_add 42 = .ok (.aload_n 0, 1) := by decide +kernel
theorem d_TB_add_43 : decode b_TB_add 43 = .ok (.getfield 27, 3) := by decide +kernel
theorem d_TB_add_46 : decode b_TB_add 46 = .ok (.invokevirtual 37, 3) := by decide +kernel
theorem d_TB_add_49 : decode b_TB_add 49 = .ok (.iinc 2 (1), 3) := by decide +kernel
theorem d_TB_add_52 : decode b_TB_add 52 = .ok (.goto (-20), 3) := by decide +kernel
theorem d_TB_add_55 : decode b_TB_add 55 = .ok (.aload_n 0, 1) := by decide +kernel
theorem d_TB_add_56 : decode b_TB_add 56 = .ok (.dup, 1) := by decide +kernel
theorem d_TB_add_57 : decode b_TB_add 57 = .ok (.getfield 27, 3) := by decide +kernel
theorem d_TB_add_60 : decode b_TB_add 60 = .ok (.iconst (1), 1) := by decide +kernel
theorem d_TB_add_61 : decode b_TB_add 61 = .ok (.iadd, 1) := by decide +kernel
theorem d_TB_add_62 : decode b_TB_add 62 = .ok (.putfield 27, 3) := by decide +kernel
theorem d_TB_add_65 : decode b_TB_add 65 = .ok (.return_, 1) := by decide +kernel
theorem s_TB_add_0 {E : mm_E} {Γ : mm_G} {lev kc ks ca sa : Nat} {w : mm_W} {f : mm_F} (h : mm_ok E Γ b_TB_add 3 "PlannedTables$Table" lev kc ks) (hw : mm_sh w) {t0 : Nat} (ht0 : t0 < 4) (k0 : mm_go E Γ 3 2 [(0, mm_rf E (4 + 12 * t0)), (1, mm_rf E 52), (2, .int 0)] [] w f ca sa) : mm_go E Γ 3 0 [(0, mm_rf E (4 + 12 * t0)), (1, mm_rf E 52)] [] w f ca sa := by
  refine mm_iconst (v := 0) h d_TB_add_0 (by decide) ?_
  refine mm_istore_n (lv' := [(2, .int 0), (0, mm_rf E (4 + 12 * t0)), (1, mm_rf E 52)]) h d_TB_add_1 rfl (by decide) rfl ?_
  refine mm_sub [1, 2, 0] rfl ?_
  exact k0
theorem s_TB_add_2 {E : mm_E} {Γ : mm_G} {lev kc ks ca sa : Nat} {w : mm_W} {f : mm_F} (h : mm_ok E Γ b_TB_add 3 "PlannedTables$Table" lev kc ks) (hw : mm_sh w) {t0 : Nat} (ht0 : t0 < 4) {x2 : Int32} (k0 : (f (4 + 12 * t0) 0) ≤ x2 → mm_go E Γ 3 32 [(0, mm_rf E (4 + 12 * t0)), (1, mm_rf E 52), (2, .int 0)] [] w f ca sa) (b1 : ¬ (f (4 + 12 * t0) 0) ≤ x2 → vp_in x2 4) (b2 : ¬ (f (4 + 12 * t0) 0) ≤ x2 → vp_in (f (4 + 12 * t0) 1) 48) (k3 : ¬ (f (4 + 12 * t0) 0) ≤ x2 → mm_go E Γ 3 2 [(0, mm_rf E (4 + 12 * t0)), (1, mm_rf E 52), (2, .int (x2 + 1))] [] w (mm_up f (7 + 12 * t0 + (x2).toNatClampNeg) ((f (4 + 12 * t0) 1)).toNatClampNeg (f 52 (x2).toNatClampNeg)) ca sa) : mm_go E Γ 3 2 [(0, mm_rf E (4 + 12 * t0)), (1, mm_rf E 52), (2, .int x2)] [] w f ca sa := by
  refine mm_iload_n h d_TB_add_2 2 rfl rfl ?_
  refine mm_aload_n h d_TB_add_3 0 rfl rfl ?_
  refine mm_geti h fl_TB_23 rfl (is_T hw ht0) d_TB_add_4 ?_
  refine mm_icmp_ge h d_TB_add_7 (tgt := 30) (by decide) (fun c1 => ?_) (fun c1 => ?_)
  · skip
    refine mm_iconst (v := 0) h d_TB_add_30 (by decide) ?_
    refine mm_istore_n (lv' := [(2, .int 0), (0, mm_rf E (4 + 12 * t0)), (1, mm_rf E 52)]) h d_TB_add_31 rfl (by decide) rfl ?_
    refine mm_sub [1, 2, 0] rfl ?_
    exact (k0 c1)
  · skip
    refine mm_aload_n h d_TB_add_10 0 rfl rfl ?_
    refine mm_getr h fl_TB_17 rfl (is_T hw ht0) (rf_T_cells hw ht0) (is_TC hw ht0).1.1 d_TB_add_11 ?_
    refine mm_iload_n h d_TB_add_14 2 rfl rfl ?_
    refine mm_aald h 3 rfl rfl rfl (fun _ => rfl) (is_TC hw ht0) (b1 c1) (ra_TC hw ht0 (mm_in_lt (b1 c1))) (is_TK hw ht0 (mm_in_lt (b1 c1))).1.1 d_TB_add_15 ?_
    refine mm_aload_n h d_TB_add_16 0 rfl rfl ?_
    refine mm_geti h fl_TB_27 rfl (is_T hw ht0) d_TB_add_17 ?_
    refine mm_aload_n h d_TB_add_20 1 rfl rfl ?_
    refine mm_iload_n h d_TB_add_21 2 rfl rfl ?_
    refine mm_iald h (is_ST hw) (b1 c1) d_TB_add_22 ?_
    refine mm_iast h (is_TK hw ht0 (mm_in_lt (b1 c1))) (b2 c1) d_TB_add_23 ?_
    refine mm_iinc (lv' := [(2, .int (x2 + 1)), (0, mm_rf E (4 + 12 * t0)), (1, mm_rf E 52)]) h d_TB_add_24 2 rfl (congrArg (fun z => x2 + z) lit1) (by decide) rfl ?_
    refine mm_goto h d_TB_add_27 (tgt := 2) (by decide) ?_
    refine mm_sub [1, 2, 0] rfl ?_
    exact (k3 c1)
theorem s_TB_add_32 {E : mm_E} {Γ : mm_G} {lev kc ks ca sa : Nat} {w : mm_W} {f : mm_F} {Post : Option Value → mm_W → mm_F → Prop} (h : mm_ok E Γ b_TB_add 3 "PlannedTables$Table" lev kc ks) (he : mm_end E Γ none kc ks Post y_TB_add.name) (hca : ca ≤ kc) (hsa : sa ≤ ks) (hw : mm_sh w) {t0 : Nat} (ht0 : t0 < 4) {x2 : Int32} (k0 : (f (4 + 12 * t0) 0) ≤ x2 → Post none w (mm_up f (4 + 12 * t0) 1 ((f (4 + 12 * t0) 1) + 1))) {vl0 vc0 vs0 : Nat} {P0 : Option Value → mm_W → mm_F → Prop} (hl0 : vl0 < lev) (hu0 : ca + vc0 ≤ kc) (hz0 : sa + vs0 ≤ ks) (m1 : ¬ (f (4 + 12 * t0) 0) ≤ x2 → mm_C E y_TB_putInOrder b_TB_putInOrder 5 none vl0 vc0 vs0 [mm_rf E (4 + 12 * t0), .int x2, .int (f (4 + 12 * t0) 1)] w f P0) (k2 : ¬ (f (4 + 12 * t0) 0) ≤ x2 → ∀ (r : Option Value) (w1 : mm_W) (f1 : mm_F), P0 r w1 f1 → mm_go E Γ 3 49 [(0, mm_rf E (4 + 12 * t0)), (1, mm_rf E 52), (2, .int x2)] (r.toList ++ []) w1 f1 (ca + vc0) (sa + vs0)) : mm_go E Γ 3 32 [(0, mm_rf E (4 + 12 * t0)), (1, mm_rf E 52), (2, .int x2)] [] w f ca sa := by
  refine mm_iload_n h d_TB_add_32 2 rfl rfl ?_
  refine mm_aload_n h d_TB_add_33 0 rfl rfl ?_
  refine mm_geti h fl_TB_23 rfl (is_T hw ht0) d_TB_add_34 ?_
  refine mm_icmp_ge h d_TB_add_37 (tgt := 55) (by decide) (fun c1 => ?_) (fun c1 => ?_)
  · skip
    refine mm_aload_n h d_TB_add_55 0 rfl rfl ?_
    refine mm_dup h d_TB_add_56 rfl ?_
    refine mm_geti h fl_TB_27 rfl (is_T hw ht0) d_TB_add_57 ?_
    refine mm_iconst (v := 1) h d_TB_add_60 (by decide) ?_
    refine mm_iadd h d_TB_add_61 ?_
    refine mm_puti h fl_TB_27 (Or.inl rfl) rfl rfl rfl (is_T hw ht0) d_TB_add_62 ?_
    exact mm_vret h he d_TB_add_65 hca hsa (k0 c1)
  · skip
    refine mm_aload_n h d_TB_add_40 0 rfl rfl ?_
    refine mm_iload_n h d_TB_add_41 2 rfl rfl ?_
    refine mm_aload_n h d_TB_add_42 0 rfl rfl ?_
    refine mm_geti h fl_TB_27 rfl (is_T hw ht0) d_TB_add_43 ?_
    exact mm_callV (As := [.int x2, .int (f (4 + 12 * t0) 1)]) (rest := []) h (m1 c1) cv_TB_37 cm_TB_putInOrder hl0 (q0 := _) rfl rfl (is_T hw ht0) hu0 hz0 rfl rfl (Nat.le_of_ble_eq_true rfl) d_TB_add_46 (fun r w1 f1 hp => (k2 c1) r w1 f1 hp)
theorem s_TB_add_49 {E : mm_E} {Γ : mm_G} {lev kc ks ca sa : Nat} {w : mm_W} {f : mm_F} (h : mm_ok E Γ b_TB_add 3 "PlannedTables$Table" lev kc ks) (hw : mm_sh w) {t0 : Nat} (ht0 : t0 < 4) {x2 : Int32} (k0 : mm_go E Γ 3 32 [(0, mm_rf E (4 + 12 * t0)), (1, mm_rf E 52), (2, .int (x2 + 1))] [] w f ca sa) : mm_go E Γ 3 49 [(0, mm_rf E (4 + 12 * t0)), (1, mm_rf E 52), (2, .int x2)] [] w f ca sa := by
  refine mm_iinc (lv' := [(2, .int (x2 + 1)), (0, mm_rf E (4 + 12 * t0)), (1, mm_rf E 52)]) h d_TB_add_49 2 rfl (congrArg (fun z => x2 + z) lit1) (by decide) rfl ?_
  refine mm_goto h d_TB_add_52 (tgt := 32) (by decide) ?_
  refine mm_sub [1, 2, 0] rfl ?_
  exact k0
theorem d_TB_putInOrder_0 : decode b_TB_putInOrder 0 = .ok (.aload_n 0, 1) := by decide +kernel
theorem d_TB_putInOrder_1 : decode b_TB_putInOrder 1 = .ok (.getfield 20, 3) := by decide +kernel
theorem d_TB_putInOrder_4 : decode b_TB_putInOrder 4 = .ok (.iload_n 1, 1) := by decide +kernel
theorem d_TB_putInOrder_5 : decode b_TB_putInOrder 5 = .ok (.aaload, 1) := by decide +kernel
theorem d_TB_putInOrder_6 : decode b_TB_putInOrder 6 = .ok (.astore_n 3, 1) := by decide +kernel
theorem d_TB_putInOrder_7 : decode b_TB_putInOrder 7 = .ok (.aload_n 0, 1) := by decide +kernel
theorem d_TB_putInOrder_8 : decode b_TB_putInOrder 8 = .ok (.getfield 27, 3) := by decide +kernel
theorem d_TB_putInOrder_11 : decode b_TB_putInOrder 11 = .ok (.istore 4, 2) := by decide +kernel
theorem d_TB_putInOrder_13 : decode b_TB_putInOrder 13 = .ok (.iload 4, 2) := by decide +kernel
theorem d_TB_putInOrder_15 : decode b_TB_putInOrder 15 = .ok (.ifCond .le (34), 3) := by decide +kernel
theorem d_TB_putInOrder_18 : decode b_TB_putInOrder 18 = .ok (.aload_n 0, 1) := by decide +kernel
theorem d_TB_putInOrder_19 : decode b_TB_putInOrder 19 = .ok (.iload_n 1, 1) := by decide +kernel
theorem d_TB_putInOrder_20 : decode b_TB_putInOrder 20 = .ok (.iload_n 2, 1) := by decide +kernel
theorem d_TB_putInOrder_21 : decode b_TB_putInOrder 21 = .ok (.aload_n 3, 1) := by decide +kernel
theorem d_TB_putInOrder_22 : decode b_TB_putInOrder 22 = .ok (.iload 4, 2) := by decide +kernel
theorem d_TB_putInOrder_24 : decode b_TB_putInOrder 24 = .ok (.iconst (1), 1) := by decide +kernel
theorem d_TB_putInOrder_25 : decode b_TB_putInOrder 25 = .ok (.isub, 1) := by decide +kernel
theorem d_TB_putInOrder_26 : decode b_TB_putInOrder 26 = .ok (.iaload, 1) := by decide +kernel
theorem d_TB_putInOrder_27 : decode b_TB_putInOrder 27 = .ok (.invokevirtual 41, 3) := by decide +kernel
theorem d_TB_putInOrder_30 : decode b_TB_putInOrder 30 = .ok (.ifCond .eq (19), 3) := by decide +kernel
theorem d_TB_putInOrder_33 : decode b_TB_putInOrder 33 = .ok (.aload_n 3, 1) := by decide +kernel
theorem d_TB_putInOrder_34 : decode b_TB_putInOrder 34 = .ok (.iload 4, 2) := by decide +kernel
theorem d_TB_putInOrder_36 : decode b_TB_putInOrder 36 = .ok (.aload_n 3, 1) := by decide +kernel
theorem d_TB_putInOrder_37 : decode b_TB_putInOrder 37 = .ok (.iload 4, 2) := by decide +kernel
theorem d_TB_putInOrder_39 : decode b_TB_putInOrder 39 = .ok (.iconst (1), 1) := by decide +kernel
theorem d_TB_putInOrder_40 : decode b_TB_putInOrder 40 = .ok (.isub, 1) := by decide +kernel
theorem d_TB_putInOrder_41 : decode b_TB_putInOrder 41 = .ok (.iaload, 1) := by decide +kernel
theorem d_TB_putInOrder_42 : decode b_TB_putInOrder 42 = .ok (.iastore, 1) := by decide +kernel
theorem d_TB_putInOrder_43 : decode b_TB_putInOrder 43 = .ok (.iinc 4 (-1), 3) := by decide +kernel
theorem d_TB_putInOrder_46 : decode b_TB_putInOrder 46 = .ok (.goto (-33), 3) := by decide +kernel
theorem d_TB_putInOrder_49 : decode b_TB_putInOrder 49 = .ok (.aload_n 3, 1) := by decide +kernel
theorem d_TB_putInOrder_50 : decode b_TB_putInOrder 50 = .ok (.iload 4, 2) := by decide +kernel
theorem d_TB_putInOrder_52 : decode b_TB_putInOrder 52 = .ok (.iload_n 2, 1) := by decide +kernel
theorem d_TB_putInOrder_53 : decode b_TB_putInOrder 53 = .ok (.iastore, 1) := by decide +kernel
theorem d_TB_putInOrder_54 : decode b_TB_putInOrder 54 = .ok (.return_, 1) := by decide +kernel
theorem s_TB_putInOrder_0 {E : mm_E} {Γ : mm_G} {lev kc ks ca sa : Nat} {w : mm_W} {f : mm_F} (h : mm_ok E Γ b_TB_putInOrder 5 "PlannedTables$Table" lev kc ks) (hw : mm_sh w) {t0 : Nat} (ht0 : t0 < 4) {x1 : Int32} {x2 : Int32} (b0 : vp_in x1 4) (k1 : mm_go E Γ 5 13 [(0, mm_rf E (4 + 12 * t0)), (1, .int x1), (2, .int x2), (3, mm_rf E (12 + 12 * t0 + (x1).toNatClampNeg)), (4, .int (f (4 + 12 * t0) 1))] [] w f ca sa) : mm_go E Γ 5 0 [(0, mm_rf E (4 + 12 * t0)), (1, .int x1), (2, .int x2)] [] w f ca sa := by
  refine mm_aload_n h d_TB_putInOrder_0 0 rfl rfl ?_
  refine mm_getr h fl_TB_20 rfl (is_T hw ht0) (rf_T_order hw ht0) (is_TO hw ht0).1.1 d_TB_putInOrder_1 ?_
  refine mm_iload_n h d_TB_putInOrder_4 1 rfl rfl ?_
  refine mm_aald h 3 rfl rfl rfl (fun _ => rfl) (is_TO hw ht0) b0 (ra_TO hw ht0 (mm_in_lt b0)) (is_TP hw ht0 (mm_in_lt b0)).1.1 d_TB_putInOrder_5 ?_
  refine mm_astore_n (lv' := [(3, mm_rf E (12 + 12 * t0 + (x1).toNatClampNeg)), (0, mm_rf E (4 + 12 * t0)), (1, .int x1), (2, .int x2)]) h d_TB_putInOrder_6 rfl (by decide) rfl ?_
  refine mm_aload_n h d_TB_putInOrder_7 1 rfl rfl ?_
  refine mm_geti h fl_TB_27 rfl (is_T hw ht0) d_TB_putInOrder_8 ?_
  refine mm_istore (lv' := [(4, .int (f (4 + 12 * t0) 1)), (3, mm_rf E (12 + 12 * t0 + (x1).toNatClampNeg)), (0, mm_rf E (4 + 12 * t0)), (1, .int x1), (2, .int x2)]) h d_TB_putInOrder_11 (by decide) rfl ?_
  refine mm_sub [2, 3, 4, 1, 0] rfl ?_
  exact k1
theorem s_TB_putInOrder_13 {E : mm_E} {Γ : mm_G} {lev kc ks ca sa : Nat} {w : mm_W} {f : mm_F} (h : mm_ok E Γ b_TB_putInOrder 5 "PlannedTables$Table" lev kc ks) (hw : mm_sh w) {t0 : Nat} (ht0 : t0 < 4) {x1 : Int32} {x2 : Int32} {t3 : Nat} (ht3 : t3 < 4) {c3 : Nat} (hc3 : c3 < 4) {x4 : Int32} (k0 : x4 ≤ 0 → mm_go E Γ 5 49 [(0, mm_rf E (4 + 12 * t0)), (1, .int x1), (2, .int x2), (3, mm_rf E (12 + 12 * t3 + c3)), (4, .int x4)] [] w f ca sa) (b1 : ¬ x4 ≤ 0 → vp_in (x4 - 1) 48) {vl0 vc0 vs0 : Nat} {P0 : Option Value → mm_W → mm_F → Prop} (hl0 : vl0 < lev) (hu0 : ca + vc0 ≤ kc) (hz0 : sa + vs0 ≤ ks) (m2 : ¬ x4 ≤ 0 → mm_C E y_TB_comesBefore b_TB_comesBefore 6 (some .boolean) vl0 vc0 vs0 [mm_rf E (4 + 12 * t0), .int x1, .int x2, .int (f (12 + 12 * t3 + c3) ((x4 - 1)).toNatClampNeg)] w f P0) (k3 : ¬ x4 ≤ 0 → ∀ (r : Option Value) (w1 : mm_W) (f1 : mm_F), P0 r w1 f1 → mm_go E Γ 5 30 [(0, mm_rf E (4 + 12 * t0)), (1, .int x1), (2, .int x2), (3, mm_rf E (12 + 12 * t3 + c3)), (4, .int x4)] (r.toList ++ []) w1 f1 (ca + vc0) (sa + vs0)) : mm_go E Γ 5 13 [(0, mm_rf E (4 + 12 * t0)), (1, .int x1), (2, .int x2), (3, mm_rf E (12 + 12 * t3 + c3)), (4, .int x4)] [] w f ca sa := by
  refine mm_iload h d_TB_putInOrder_13 4 rfl ?_
  refine mm_if_le h d_TB_putInOrder_15 (tgt := 49) (by decide) (fun c1 => ?_) (fun c1 => ?_)
  · skip
    exact (k0 c1)
  · skip
    refine mm_aload_n h d_TB_putInOrder_18 0 rfl rfl ?_
    refine mm_iload_n h d_TB_putInOrder_19 1 rfl rfl ?_
    refine mm_iload_n h d_TB_putInOrder_20 2 rfl rfl ?_
    refine mm_aload_n h d_TB_putInOrder_21 3 rfl rfl ?_
    refine mm_iload h d_TB_putInOrder_22 4 rfl ?_
    refine mm_iconst (v := 1) h d_TB_putInOrder_24 (by decide) ?_
    refine mm_isub h d_TB_putInOrder_25 ?_
    refine mm_iald h (is_TP hw ht3 hc3) (b1 c1) d_TB_putInOrder_26 ?_
    exact mm_callV (As := [.int x1, .int x2, .int (f (12 + 12 * t3 + c3) ((x4 - 1)).toNatClampNeg)]) (rest := []) h (m2 c1) cv_TB_41 cm_TB_comesBefore hl0 (q0 := _) rfl rfl (is_T hw ht0) hu0 hz0 rfl rfl (Nat.le_of_ble_eq_true rfl) d_TB_putInOrder_27 (fun r w1 f1 hp => (k3 c1) r w1 f1 hp)
theorem s_TB_putInOrder_30 {E : mm_E} {Γ : mm_G} {lev kc ks ca sa : Nat} {w : mm_W} {f : mm_F} (h : mm_ok E Γ b_TB_putInOrder 5 "PlannedTables$Table" lev kc ks) (hw : mm_sh w) {t0 : Nat} (ht0 : t0 < 4) {x1 : Int32} {x2 : Int32} {t3 : Nat} (ht3 : t3 < 4) {c3 : Nat} (hc3 : c3 < 4) {x4 : Int32} {xk0 : Int32} (k0 : xk0 = 0 → mm_go E Γ 5 49 [(0, mm_rf E (4 + 12 * t0)), (1, .int x1), (2, .int x2), (3, mm_rf E (12 + 12 * t3 + c3)), (4, .int x4)] [] w f ca sa) (b1 : ¬ xk0 = 0 → vp_in (x4 - 1) 48) (b2 : ¬ xk0 = 0 → vp_in x4 48) (k3 : ¬ xk0 = 0 → mm_go E Γ 5 13 [(0, mm_rf E (4 + 12 * t0)), (1, .int x1), (2, .int x2), (3, mm_rf E (12 + 12 * t3 + c3)), (4, .int (x4 + (-1)))] [] w (mm_up f (12 + 12 * t3 + c3) (x4).toNatClampNeg (f (12 + 12 * t3 + c3) ((x4 - 1)).toNatClampNeg)) ca sa) : mm_go E Γ 5 30 [(0, mm_rf E (4 + 12 * t0)), (1, .int x1), (2, .int x2), (3, mm_rf E (12 + 12 * t3 + c3)), (4, .int x4)] [.int xk0] w f ca sa := by
  refine mm_if_eq h d_TB_putInOrder_30 (tgt := 49) (by decide) (fun c1 => ?_) (fun c1 => ?_)
  · skip
    exact (k0 c1)
  · skip
    refine mm_aload_n h d_TB_putInOrder_33 3 rfl rfl ?_
    refine mm_iload h d_TB_putInOrder_34 4 rfl ?_
    refine mm_aload_n h d_TB_putInOrder_36 3 rfl rfl ?_
    refine mm_iload h d_TB_putInOrder_37 4 rfl ?_
    refine mm_iconst (v := 1) h d_TB_putInOrder_39 (by decide) ?_
    refine mm_isub h d_TB_putInOrder_40 ?_
    refine mm_iald h (is_TP hw ht3 hc3) (b1 c1) d_TB_putInOrder_41 ?_
    refine mm_iast h (is_TP hw ht3 hc3) (b2 c1) d_TB_putInOrder_42 ?_
    refine mm_iinc (lv' := [(4, .int (x4 + (-1))), (0, mm_rf E (4 + 12 * t0)), (1, .int x1), (2, .int x2), (3, mm_rf E (12 + 12 * t3 + c3))]) h d_TB_putInOrder_43 4 rfl (congrArg (fun z => x4 + z) litm1) (by decide) rfl ?_
    refine mm_goto h d_TB_putInOrder_46 (tgt := 13) (by decide) ?_
    refine mm_sub [1, 2, 3, 4, 0] rfl ?_
    exact (k3 c1)
theorem s_TB_putInOrder_49 {E : mm_E} {Γ : mm_G} {lev kc ks ca sa : Nat} {w : mm_W} {f : mm_F} {Post : Option Value → mm_W → mm_F → Prop} (h : mm_ok E Γ b_TB_putInOrder 5 "PlannedTables$Table" lev kc ks) (he : mm_end E Γ none kc ks Post y_TB_putInOrder.name) (hca : ca ≤ kc) (hsa : sa ≤ ks) (hw : mm_sh w) {t0 : Nat} (ht0 : t0 < 4) {x1 : Int32} {x2 : Int32} {t3 : Nat} (ht3 : t3 < 4) {c3 : Nat} (hc3 : c3 < 4) {x4 : Int32} (b0 : vp_in x4 48) (k1 : Post none w (mm_up f (12 + 12 * t3 + c3) (x4).toNatClampNeg x2)) : mm_go E Γ 5 49 [(0, mm_rf E (4 + 12 * t0)), (1, .int x1), (2, .int x2), (3, mm_rf E (12 + 12 * t3 + c3)), (4, .int x4)] [] w f ca sa := by
  refine mm_aload_n h d_TB_putInOrder_49 3 rfl rfl ?_
  refine mm_iload h d_TB_putInOrder_50 4 rfl ?_
  refine mm_iload_n h d_TB_putInOrder_52 2 rfl rfl ?_
  refine mm_iast h (is_TP hw ht3 hc3) b0 d_TB_putInOrder_53 ?_
  exact mm_vret h he d_TB_putInOrder_54 hca hsa k1
theorem d_TB_comesBefore_0 : decode b_TB_comesBefore 0 = .ok (.aload_n 0, 1) := by decide +kernel
theorem d_TB_comesBefore_1 : decode b_TB_comesBefore 1 = .ok (.getfield 17, 3) := by decide +kernel
theorem d_TB_comesBefore_4 : decode b_TB_comesBefore 4 = .ok (.iload_n 1, 1) := by decide +kernel
theorem d_TB_comesBefore_5 : decode b_TB_comesBefore 5 = .ok (.aaload, 1) := by decide +kernel
theorem d_TB_comesBefore_6 : decode b_TB_comesBefore 6 = .ok (.iload_n 2, 1) := by decide +kernel
theorem d_TB_comesBefore_7 : decode b_TB_comesBefore 7 = .ok (.iaload, 1) := by decide +kernel
theorem d_TB_comesBefore_8 : decode b_TB_comesBefore 8 = .ok (.istore 4, 2) := by decide +kernel
theorem d_TB_comesBefore_10 : decode b_TB_comesBefore 10 = .ok (.aload_n 0, 1) := by decide +kernel
theorem d_TB_comesBefore_11 : decode b_TB_comesBefore 11 = .ok (.getfield 17, 3) := by decide +kernel
theorem d_TB_comesBefore_14 : decode b_TB_comesBefore 14 = .ok (.iload_n 1, 1) := by decide +kernel
theorem d_TB_comesBefore_15 : decode b_TB_comesBefore 15 = .ok (.aaload, 1) := by decide +kernel
theorem d_TB_comesBefore_16 : decode b_TB_comesBefore 16 = .ok (.iload_n 3, 1) := by decide +kernel
theorem d_TB_comesBefore_17 : decode b_TB_comesBefore 17 = .ok (.iaload, 1) := by decide +kernel
theorem d_TB_comesBefore_18 : decode b_TB_comesBefore 18 = .ok (.istore 5, 2) := by decide +kernel
theorem d_TB_comesBefore_20 : decode b_TB_comesBefore 20 = .ok (.iload 4, 2) := by decide +kernel
theorem d_TB_comesBefore_22 : decode b_TB_comesBefore 22 = .ok (.iload 5, 2) := by decide +kernel
theorem d_TB_comesBefore_24 : decode b_TB_comesBefore 24 = .ok (.if_icmp .lt (29), 3) := by decide +kernel
theorem d_TB_comesBefore_27 : decode b_TB_comesBefore 27 = .ok (.iload 4, 2) := by decide +kernel
theorem d_TB_comesBefore_29 : decode b_TB_comesBefore 29 = .ok (.iload 5, 2) := by decide +kernel
theorem d_TB_comesBefore_31 : decode b_TB_comesBefore 31 = .ok (.if_icmp .ne (26), 3) := by decide +kernel
theorem d_TB_comesBefore_34 : decode b_TB_comesBefore 34 = .ok (.aload_n 0, 1) := by decide +kernel
theorem d_TB_comesBefore_35 : decode b_TB_comesBefore 35 = .ok (.getfield 17, 3) := by decide +kernel
theorem d_TB_comesBefore_38 : decode b_TB_comesBefore 38 = .ok (.iconst (0), 1) := by decide +kernel
theorem d_TB_comesBefore_39 : decode b_TB_comesBefore 39 = .ok (.aaload, 1) := by decide +kernel
theorem d_TB_comesBefore_40 : decode b_TB_comesBefore 40 = .ok (.iload_n 2, 1) := by decide +kernel
theorem d_TB_comesBefore_41 : decode b_TB_comesBefore 41 = .ok (.iaload, 1) := by decide +kernel
theorem d_TB_comesBefore_42 : decode b_TB_comesBefore 42 = .ok (.aload_n 0, 1) := by decide +kernel
theorem d_TB_comesBefore_43 : decode b_TB_comesBefore 43 = .ok (.getfield 17, 3) := by decide +kernel
theorem d_TB_comesBefore_46 : decode b_TB_comesBefore 46 = .ok (.iconst (0), 1) := by decide +kernel
theorem d_TB_comesBefore_47 : decode b_TB_comesBefore 47 = .ok (.aaload, 1) := by decide +kernel
theorem d_TB_comesBefore_48 : decode b_TB_comesBefore 48 = .ok (.iload_n 3, 1) := by decide +kernel
theorem d_TB_comesBefore_49 : decode b_TB_comesBefore 49 = .ok (.iaload, 1) := by decide +kernel
theorem d_TB_comesBefore_50 : decode b_TB_comesBefore 50 = .ok (.if_icmp .ge (7), 3) := by decide +kernel
theorem d_TB_comesBefore_53 : decode b_TB_comesBefore 53 = .ok (.iconst (1), 1) := by decide +kernel
theorem d_TB_comesBefore_54 : decode b_TB_comesBefore 54 = .ok (.goto (4), 3) := by decide +kernel
theorem d_TB_comesBefore_57 : decode b_TB_comesBefore 57 = .ok (.iconst (0), 1) := by decide +kernel
theorem d_TB_comesBefore_58 : decode b_TB_comesBefore 58 = .ok (.ireturn, 1) := by decide +kernel
theorem s_TB_comesBefore_0 {E : mm_E} {Γ : mm_G} {lev kc ks ca sa : Nat} {w : mm_W} {f : mm_F} (h : mm_ok E Γ b_TB_comesBefore 6 "PlannedTables$Table" lev kc ks) (hw : mm_sh w) {t0 : Nat} (ht0 : t0 < 4) {x1 : Int32} {x2 : Int32} {x3 : Int32} (b0 : vp_in x1 4) (b1 : vp_in x2 48) (b2 : vp_in x3 48) (k3 : (f (7 + 12 * t0 + (x1).toNatClampNeg) (x2).toNatClampNeg) < (f (7 + 12 * t0 + (x1).toNatClampNeg) (x3).toNatClampNeg) → mm_go E Γ 6 53 [(0, mm_rf E (4 + 12 * t0)), (1, .int x1), (2, .int x2), (3, .int x3), (4, .int (f (7 + 12 * t0 + (x1).toNatClampNeg) (x2).toNatClampNeg)), (5, .int (f (7 + 12 * t0 + (x1).toNatClampNeg) (x3).toNatClampNeg))] [] w f ca sa) (k4 : ¬ (f (7 + 12 * t0 + (x1).toNatClampNeg) (x2).toNatClampNeg) < (f (7 + 12 * t0 + (x1).toNatClampNeg) (x3).toNatClampNeg) → ¬ (f (7 + 12 * t0 + (x1).toNatClampNeg) (x2).toNatClampNeg) = (f (7 + 12 * t0 + (x1).toNatClampNeg) (x3).toNatClampNeg) → mm_go E Γ 6 57 [(0, mm_rf E (4 + 12 * t0)), (1, .int x1), (2, .int x2), (3, .int x3), (4, .int (f (7 + 12 * t0 + (x1).toNatClampNeg) (x2).toNatClampNeg)), (5, .int (f (7 + 12 * t0 + (x1).toNatClampNeg) (x3).toNatClampNeg))] [] w f ca sa) (k5 : ¬ (f (7 + 12 * t0 + (x1).toNatClampNeg) (x2).toNatClampNeg) < (f (7 + 12 * t0 + (x1).toNatClampNeg) (x3).toNatClampNeg) → (f (7 + 12 * t0 + (x1).toNatClampNeg) (x2).toNatClampNeg) = (f (7 + 12 * t0 + (x1).toNatClampNeg) (x3).toNatClampNeg) → (f (7 + 12 * t0 + 0) (x3).toNatClampNeg) ≤ (f (7 + 12 * t0 + 0) (x2).toNatClampNeg) → mm_go E Γ 6 57 [(0, mm_rf E (4 + 12 * t0)), (1, .int x1), (2, .int x2), (3, .int x3), (4, .int (f (7 + 12 * t0 + (x1).toNatClampNeg) (x2).toNatClampNeg)), (5, .int (f (7 + 12 * t0 + (x1).toNatClampNeg) (x3).toNatClampNeg))] [] w f ca sa) (k6 : ¬ (f (7 + 12 * t0 + (x1).toNatClampNeg) (x2).toNatClampNeg) < (f (7 + 12 * t0 + (x1).toNatClampNeg) (x3).toNatClampNeg) → (f (7 + 12 * t0 + (x1).toNatClampNeg) (x2).toNatClampNeg) = (f (7 + 12 * t0 + (x1).toNatClampNeg) (x3).toNatClampNeg) → ¬ (f (7 + 12 * t0 + 0) (x3).toNatClampNeg) ≤ (f (7 + 12 * t0 + 0) (x2).toNatClampNeg) → mm_go E Γ 6 53 [(0, mm_rf E (4 + 12 * t0)), (1, .int x1), (2, .int x2), (3, .int x3), (4, .int (f (7 + 12 * t0 + (x1).toNatClampNeg) (x2).toNatClampNeg)), (5, .int (f (7 + 12 * t0 + (x1).toNatClampNeg) (x3).toNatClampNeg))] [] w f ca sa) : mm_go E Γ 6 0 [(0, mm_rf E (4 + 12 * t0)), (1, .int x1), (2, .int x2), (3, .int x3)] [] w f ca sa := by
  refine mm_aload_n h d_TB_comesBefore_0 0 rfl rfl ?_
  refine mm_getr h fl_TB_17 rfl (is_T hw ht0) (rf_T_cells hw ht0) (is_TC hw ht0).1.1 d_TB_comesBefore_1 ?_
  refine mm_iload_n h d_TB_comesBefore_4 1 rfl rfl ?_
  refine mm_aald h 3 rfl rfl rfl (fun _ => rfl) (is_TC hw ht0) b0 (ra_TC hw ht0 (mm_in_lt b0)) (is_TK hw ht0 (mm_in_lt b0)).1.1 d_TB_comesBefore_5 ?_
  refine mm_iload_n h d_TB_comesBefore_6 2 rfl rfl ?_
  refine mm_iald h (is_TK hw ht0 (mm_in_lt b0)) b1 d_TB_comesBefore_7 ?_
  refine mm_istore (lv' := [(4, .int (f (7 + 12 * t0 + (x1).toNatClampNeg) (x2).toNatClampNeg)), (0, mm_rf E (4 + 12 * t0)), (1, .int x1), (2, .int x2), (3, .int x3)]) h d_TB_comesBefore_8 (by decide) rfl ?_
  refine mm_aload_n h d_TB_comesBefore_10 1 rfl rfl ?_
  refine mm_getr h fl_TB_17 rfl (is_T hw ht0) (rf_T_cells hw ht0) (is_TC hw ht0).1.1 d_TB_comesBefore_11 ?_
  refine mm_iload_n h d_TB_comesBefore_14 2 rfl rfl ?_
  refine mm_aald h 3 rfl rfl rfl (fun _ => rfl) (is_TC hw ht0) b0 (ra_TC hw ht0 (mm_in_lt b0)) (is_TK hw ht0 (mm_in_lt b0)).1.1 d_TB_comesBefore_15 ?_
  refine mm_iload_n h d_TB_comesBefore_16 4 rfl rfl ?_
  refine mm_iald h (is_TK hw ht0 (mm_in_lt b0)) b2 d_TB_comesBefore_17 ?_
  refine mm_istore (lv' := [(5, .int (f (7 + 12 * t0 + (x1).toNatClampNeg) (x3).toNatClampNeg)), (4, .int (f (7 + 12 * t0 + (x1).toNatClampNeg) (x2).toNatClampNeg)), (0, mm_rf E (4 + 12 * t0)), (1, .int x1), (2, .int x2), (3, .int x3)]) h d_TB_comesBefore_18 (by decide) rfl ?_
  refine mm_iload h d_TB_comesBefore_20 1 rfl ?_
  refine mm_iload h d_TB_comesBefore_22 0 rfl ?_
  refine mm_icmp_lt h d_TB_comesBefore_24 (tgt := 53) (by decide) (fun c1 => ?_) (fun c1 => ?_)
  · skip
    refine mm_sub [2, 3, 4, 5, 1, 0] rfl ?_
    exact (k3 c1)
  · skip
    refine mm_iload h d_TB_comesBefore_27 1 rfl ?_
    refine mm_iload h d_TB_comesBefore_29 0 rfl ?_
    refine mm_icmp_ne h d_TB_comesBefore_31 (tgt := 57) (by decide) (fun c2 => ?_) (fun c2 => ?_)
    · skip
      refine mm_sub [2, 3, 4, 5, 1, 0] rfl ?_
      exact (k4 c1 c2)
    · skip
      refine mm_aload_n h d_TB_comesBefore_34 2 rfl rfl ?_
      refine mm_getr h fl_TB_17 rfl (is_T hw ht0) (rf_T_cells hw ht0) (is_TC hw ht0).1.1 d_TB_comesBefore_35 ?_
      refine mm_iconst (v := 0) h d_TB_comesBefore_38 (by decide) ?_
      refine mm_aald h 3 rfl rfl rfl (fun _ => rfl) (is_TC hw ht0) (by unfold vp_in; decide) (ra_TC hw ht0 (mm_in_lt (by unfold vp_in; decide))) (is_TK hw ht0 (mm_in_lt (by unfold vp_in; decide))).1.1 d_TB_comesBefore_39 ?_
      refine mm_iload_n h d_TB_comesBefore_40 4 rfl rfl ?_
      refine mm_iald h (is_TK hw ht0 (mm_in_lt (by unfold vp_in; decide))) b1 d_TB_comesBefore_41 ?_
      refine mm_aload_n h d_TB_comesBefore_42 2 rfl rfl ?_
      refine mm_getr h fl_TB_17 rfl (is_T hw ht0) (rf_T_cells hw ht0) (is_TC hw ht0).1.1 d_TB_comesBefore_43 ?_
      refine mm_iconst (v := 0) h d_TB_comesBefore_46 (by decide) ?_
      refine mm_aald h 3 rfl rfl rfl (fun _ => rfl) (is_TC hw ht0) (by unfold vp_in; decide) (ra_TC hw ht0 (mm_in_lt (by unfold vp_in; decide))) (is_TK hw ht0 (mm_in_lt (by unfold vp_in; decide))).1.1 d_TB_comesBefore_47 ?_
      refine mm_iload_n h d_TB_comesBefore_48 5 rfl rfl ?_
      refine mm_iald h (is_TK hw ht0 (mm_in_lt (by unfold vp_in; decide))) b2 d_TB_comesBefore_49 ?_
      refine mm_icmp_ge h d_TB_comesBefore_50 (tgt := 57) (by decide) (fun c3 => ?_) (fun c3 => ?_)
      · skip
        refine mm_sub [2, 3, 4, 5, 1, 0] rfl ?_
        exact (k5 c1 c2 c3)
      · skip
        refine mm_sub [2, 3, 4, 5, 1, 0] rfl ?_
        exact (k6 c1 c2 c3)
theorem s_TB_comesBefore_53 {E : mm_E} {Γ : mm_G} {lev kc ks ca sa : Nat} {w : mm_W} {f : mm_F} (h : mm_ok E Γ b_TB_comesBefore 6 "PlannedTables$Table" lev kc ks) (hw : mm_sh w) {t0 : Nat} (ht0 : t0 < 4) {x1 : Int32} {x2 : Int32} {x3 : Int32} {x4 : Int32} {x5 : Int32} (k0 : mm_go E Γ 6 58 [(0, mm_rf E (4 + 12 * t0)), (1, .int x1), (2, .int x2), (3, .int x3), (4, .int x4), (5, .int x5)] [.int 1] w f ca sa) : mm_go E Γ 6 53 [(0, mm_rf E (4 + 12 * t0)), (1, .int x1), (2, .int x2), (3, .int x3), (4, .int x4), (5, .int x5)] [] w f ca sa := by
  refine mm_iconst (v := 1) h d_TB_comesBefore_53 (by decide) ?_
  refine mm_goto h d_TB_comesBefore_54 (tgt := 58) (by decide) ?_
  exact k0
theorem s_TB_comesBefore_57 {E : mm_E} {Γ : mm_G} {lev kc ks ca sa : Nat} {w : mm_W} {f : mm_F} (h : mm_ok E Γ b_TB_comesBefore 6 "PlannedTables$Table" lev kc ks) (hw : mm_sh w) {t0 : Nat} (ht0 : t0 < 4) {x1 : Int32} {x2 : Int32} {x3 : Int32} {x4 : Int32} {x5 : Int32} (k0 : mm_go E Γ 6 58 [(0, mm_rf E (4 + 12 * t0)), (1, .int x1), (2, .int x2), (3, .int x3), (4, .int x4), (5, .int x5)] [.int 0] w f ca sa) : mm_go E Γ 6 57 [(0, mm_rf E (4 + 12 * t0)), (1, .int x1), (2, .int x2), (3, .int x3), (4, .int x4), (5, .int x5)] [] w f ca sa := by
  refine mm_iconst (v := 0) h d_TB_comesBefore_57 (by decide) ?_
  exact k0
theorem s_TB_comesBefore_58 {E : mm_E} {Γ : mm_G} {lev kc ks ca sa : Nat} {w : mm_W} {f : mm_F} {Post : Option Value → mm_W → mm_F → Prop} (h : mm_ok E Γ b_TB_comesBefore 6 "PlannedTables$Table" lev kc ks) (he : mm_end E Γ (some .boolean) kc ks Post y_TB_comesBefore.name) (hca : ca ≤ kc) (hsa : sa ≤ ks) (hw : mm_sh w) {t0 : Nat} (ht0 : t0 < 4) {x1 : Int32} {x2 : Int32} {x3 : Int32} {x4 : Int32} {x5 : Int32} {xk0 : Int32} (k0 : Post (some (.int xk0)) w f) (n1 : narrow .boolean (.int xk0) = .int xk0) : mm_go E Γ 6 58 [(0, mm_rf E (4 + 12 * t0)), (1, .int x1), (2, .int x2), (3, .int x3), (4, .int x4), (5, .int x5)] [.int xk0] w f ca sa := by
  exact mm_iret h he n1 d_TB_comesBefore_58 hca hsa k0
theorem d_TB_remove_0 : decode b_TB_remove 0 = .ok (.aload_n 0, 1) := by decide +kernel
theorem d_TB_remove_1 : decode b_TB_remove 1 = .ok (.getfield 27, 3) := by decide +kernel
theorem d_TB_remove_4 : decode b_TB_remove 4 = .ok (.iconst (1), 1) := by decide +kernel
theorem d_TB_remove_5 : decode b_TB_remove 5 = .ok (.isub, 1) := by decide +kernel
theorem d_TB_remove_6 : decode b_TB_remove 6 = .ok (.istore_n 2, 1) := by decide +kernel
theorem d_TB_remove_7 : decode b_TB_remove 7 = .ok (.iconst (0), 1) := by decide +kernel
theorem d_TB_remove_8 : decode b_TB_remove 8 = .ok (.istore_n 3, 1) := by decide +kernel
theorem d_TB_remove_9 : decode b_TB_remove 9 = .ok (.iload_n 3, 1) := by decide +kernel
theorem d_TB_remove_10 : decode b_TB_remove 10 = .ok (.aload_n 0, 1) := by decide +kernel
theorem d_TB_remove_11 : decode b_TB_remove 11 = .ok (.getfield 23, 3) := by decide +kernel
theorem d_TB_remove_14 : decode b_TB_remove 14 = .ok (.if_icmp .ge (32), 3) := by decide +kernel
theorem d_TB_remove_17 : decode b_TB_remove 17 = .ok (.aload_n 0, 1) := by decide +kernel
theorem d_TB_remove_18 : decode b_TB_remove 18 = .ok (.iload_n 3, 1) := by decide +kernel
theorem d_TB_remove_19 : decode b_TB_remove 19 = .ok (.iload_n 1, 1) := by decide +kernel
theorem d_TB_remove_20 : decode b_TB_remove 20 = .ok (.iload_n 2, 1) := by decide +kernel
theorem d_TB_remove_21 : decode b_TB_remove 21 = .ok (.invokevirtual 45, 3) := by decide +kernel
theorem d_TB_remove_24 : decode b_TB_remove 24 = .ok (.aload_n 0, 1) := by decide +kernel
theorem d_TB_remove_25 : decode b_TB_remove 25 = .ok (.getfield 17, 3) := by decide +kernel
theorem d_TB_remove_28 : decode b_TB_remove 28 = .ok (.iload_n 3, 1) := by decide +kernel
theorem d_TB_remove_29 : decode b_TB_remove 29 = .ok (.aaload, 1) := by decide +kernel
theorem d_TB_remove_30 : decode b_TB_remove 30 = .ok (.iload_n 1, 1) := by decide +kernel
theorem d_TB_remove_31 : decode b_TB_remove 31 = .ok (.aload_n 0, 1) := by decide +kernel
theorem d_TB_remove_32 : decode b_TB_remove 32 = .ok (.getfield 17, 3) := by decide +kernel
theorem d_TB_remove_35 : decode b_TB_remove 35 = .ok (.iload_n 3, 1) := by decide +kernel
theorem d_TB_remove_36 : decode b_TB_remove 36 = .ok (.aaload, 1) := by decide +kernel
theorem d_TB_remove_37 : decode b_TB_remove 37 = .ok (.iload_n 2, 1) := by decide +kernel
theorem d_TB_remove_38 : decode b_TB_remove 38 = .ok (.iaload, 1) := by decide +kernel
theorem d_TB_remove_39 : decode b_TB_remove 39 = .ok (.iastore, 1) := by decide +kernel
theorem d_TB_remove_40 : decode b_TB_remove 40 = .ok (.iinc 3 (1), 3) := by decide +kernel
theorem d_TB_remove_43 : decode b_TB_remove 43 = .ok (.goto (-34), 3) := by decide +kernel
theorem d_TB_remove_46 : decode b_TB_remove 46 = .ok (.aload_n 0, 1) := by decide +kernel
theorem d_TB_remove_47 : decode b_TB_remove 47 = .ok (.iload_n 2, 1) := by decide +kernel
theorem d_TB_remove_48 : decode b_TB_remove 48 = .ok (.putfield 27, 3) := by decide +kernel
theorem d_TB_remove_51 : decode b_TB_remove 51 = .ok (.return_, 1) := by decide +kernel
theorem s_TB_remove_0 {E : mm_E} {Γ : mm_G} {lev kc ks ca sa : Nat} {w : mm_W} {f : mm_F} (h : mm_ok E Γ b_TB_remove 4 "PlannedTables$Table" lev kc ks) (hw : mm_sh w) {t0 : Nat} (ht0 : t0 < 4) {x1 : Int32} (k0 : mm_go E Γ 4 9 [(0, mm_rf E (4 + 12 * t0)), (1, .int x1), (2, .int ((f (4 + 12 * t0) 1) - 1)), (3, .int 0)] [] w f ca sa) : mm_go E Γ 4 0 [(0, mm_rf E (4 + 12 * t0)), (1, .int x1)] [] w f ca sa := by
  refine mm_aload_n h d_TB_remove_0 0 rfl rfl ?_
  refine mm_geti h fl_TB_27 rfl (is_T hw ht0) d_TB_remove_1 ?_
  refine mm_iconst (v := 1) h d_TB_remove_4 (by decide) ?_
  refine mm_isub h d_TB_remove_5 ?_
  refine mm_istore_n (lv' := [(2, .int ((f (4 + 12 * t0) 1) - 1)), (0, mm_rf E (4 + 12 * t0)), (1, .int x1)]) h d_TB_remove_6 rfl (by decide) rfl ?_
  refine mm_iconst (v := 0) h d_TB_remove_7 (by decide) ?_
  refine mm_istore_n (lv' := [(3, .int 0), (2, .int ((f (4 + 12 * t0) 1) - 1)), (0, mm_rf E (4 + 12 * t0)), (1, .int x1)]) h d_TB_remove_8 rfl (by decide) rfl ?_
  refine mm_sub [2, 3, 1, 0] rfl ?_
  exact k0
theorem s_TB_remove_9 {E : mm_E} {Γ : mm_G} {lev kc ks ca sa : Nat} {w : mm_W} {f : mm_F} {Post : Option Value → mm_W → mm_F → Prop} (h : mm_ok E Γ b_TB_remove 4 "PlannedTables$Table" lev kc ks) (he : mm_end E Γ none kc ks Post y_TB_remove.name) (hca : ca ≤ kc) (hsa : sa ≤ ks) (hw : mm_sh w) {t0 : Nat} (ht0 : t0 < 4) {x1 : Int32} {x2 : Int32} {x3 : Int32} (k0 : (f (4 + 12 * t0) 0) ≤ x3 → Post none w (mm_up f (4 + 12 * t0) 1 x2)) {vl0 vc0 vs0 : Nat} {P0 : Option Value → mm_W → mm_F → Prop} (hl0 : vl0 < lev) (hu0 : ca + vc0 ≤ kc) (hz0 : sa + vs0 ≤ ks) (m1 : ¬ (f (4 + 12 * t0) 0) ≤ x3 → mm_C E y_TB_removeFromOrder b_TB_removeFromOrder 8 none vl0 vc0 vs0 [mm_rf E (4 + 12 * t0), .int x3, .int x1, .int x2] w f P0) (k2 : ¬ (f (4 + 12 * t0) 0) ≤ x3 → ∀ (r : Option Value) (w1 : mm_W) (f1 : mm_F), P0 r w1 f1 → mm_go E Γ 4 24 [(0, mm_rf E (4 + 12 * t0)), (1, .int x1), (2, .int x2), (3, .int x3)] (r.toList ++ []) w1 f1 (ca + vc0) (sa + vs0)) : mm_go E Γ 4 9 [(0, mm_rf E (4 + 12 * t0)), (1, .int x1), (2, .int x2), (3, .int x3)] [] w f ca sa := by
  refine mm_iload_n h d_TB_remove_9 3 rfl rfl ?_
  refine mm_aload_n h d_TB_remove_10 0 rfl rfl ?_
  refine mm_geti h fl_TB_23 rfl (is_T hw ht0) d_TB_remove_11 ?_
  refine mm_icmp_ge h d_TB_remove_14 (tgt := 46) (by decide) (fun c1 => ?_) (fun c1 => ?_)
  · skip
    refine mm_aload_n h d_TB_remove_46 0 rfl rfl ?_
    refine mm_iload_n h d_TB_remove_47 2 rfl rfl ?_
    refine mm_puti h fl_TB_27 (Or.inl rfl) rfl rfl rfl (is_T hw ht0) d_TB_remove_48 ?_
    exact mm_vret h he d_TB_remove_51 hca hsa (k0 c1)
  · skip
    refine mm_aload_n h d_TB_remove_17 0 rfl rfl ?_
    refine mm_iload_n h d_TB_remove_18 3 rfl rfl ?_
    refine mm_iload_n h d_TB_remove_19 1 rfl rfl ?_
    refine mm_iload_n h d_TB_remove_20 2 rfl rfl ?_
    exact mm_callV (As := [.int x3, .int x1, .int x2]) (rest := []) h (m1 c1) cv_TB_45 cm_TB_removeFromOrder hl0 (q0 := _) rfl rfl (is_T hw ht0) hu0 hz0 rfl rfl (Nat.le_of_ble_eq_true rfl) d_TB_remove_21 (fun r w1 f1 hp => (k2 c1) r w1 f1 hp)
theorem s_TB_remove_24 {E : mm_E} {Γ : mm_G} {lev kc ks ca sa : Nat} {w : mm_W} {f : mm_F} (h : mm_ok E Γ b_TB_remove 4 "PlannedTables$Table" lev kc ks) (hw : mm_sh w) {t0 : Nat} (ht0 : t0 < 4) {x1 : Int32} {x2 : Int32} {x3 : Int32} (b0 : vp_in x3 4) (b1 : vp_in x2 48) (b2 : vp_in x1 48) (k3 : mm_go E Γ 4 9 [(0, mm_rf E (4 + 12 * t0)), (1, .int x1), (2, .int x2), (3, .int (x3 + 1))] [] w (mm_up f (7 + 12 * t0 + (x3).toNatClampNeg) (x1).toNatClampNeg (f (7 + 12 * t0 + (x3).toNatClampNeg) (x2).toNatClampNeg)) ca sa) : mm_go E Γ 4 24 [(0, mm_rf E (4 + 12 * t0)), (1, .int x1), (2, .int x2), (3, .int x3)] [] w f ca sa := by
  refine mm_aload_n h d_TB_remove_24 0 rfl rfl ?_
  refine mm_getr h fl_TB_17 rfl (is_T hw ht0) (rf_T_cells hw ht0) (is_TC hw ht0).1.1 d_TB_remove_25 ?_
  refine mm_iload_n h d_TB_remove_28 3 rfl rfl ?_
  refine mm_aald h 3 rfl rfl rfl (fun _ => rfl) (is_TC hw ht0) b0 (ra_TC hw ht0 (mm_in_lt b0)) (is_TK hw ht0 (mm_in_lt b0)).1.1 d_TB_remove_29 ?_
  refine mm_iload_n h d_TB_remove_30 1 rfl rfl ?_
  refine mm_aload_n h d_TB_remove_31 0 rfl rfl ?_
  refine mm_getr h fl_TB_17 rfl (is_T hw ht0) (rf_T_cells hw ht0) (is_TC hw ht0).1.1 d_TB_remove_32 ?_
  refine mm_iload_n h d_TB_remove_35 3 rfl rfl ?_
  refine mm_aald h 3 rfl rfl rfl (fun _ => rfl) (is_TC hw ht0) b0 (ra_TC hw ht0 (mm_in_lt b0)) (is_TK hw ht0 (mm_in_lt b0)).1.1 d_TB_remove_36 ?_
  refine mm_iload_n h d_TB_remove_37 2 rfl rfl ?_
  refine mm_iald h (is_TK hw ht0 (mm_in_lt b0)) b1 d_TB_remove_38 ?_
  refine mm_iast h (is_TK hw ht0 (mm_in_lt b0)) b2 d_TB_remove_39 ?_
  refine mm_iinc (lv' := [(3, .int (x3 + 1)), (0, mm_rf E (4 + 12 * t0)), (1, .int x1), (2, .int x2)]) h d_TB_remove_40 3 rfl (congrArg (fun z => x3 + z) lit1) (by decide) rfl ?_
  refine mm_goto h d_TB_remove_43 (tgt := 9) (by decide) ?_
  refine mm_sub [1, 2, 3, 0] rfl ?_
  exact k3
theorem d_TB_removeFromOrder_0 : decode b_TB_removeFromOrder 0 = .ok (.aload_n 0, 1) := by decide +kernel
theorem d_TB_removeFromOrder_1 : decode b_TB_removeFromOrder 1 = .ok (.getfield 20, 3) := by decide +kernel
theorem d_TB_removeFromOrder_4 : decode b_TB_removeFromOrder 4 = .ok (.iload_n 1, 1) := by decide +kernel
theorem d_TB_removeFromOrder_5 : decode b_TB_removeFromOrder 5 = .ok (.aaload, 1) := by decide +kernel
theorem d_TB_removeFromOrder_6 : decode b_TB_removeFromOrder 6 = .ok (.astore 4, 2) := by decide +kernel
theorem d_TB_removeFromOrder_8 : decode b_TB_removeFromOrder 8 = .ok (.iconst (0), 1) := by decide +kernel
theorem d_TB_removeFromOrder_9 : decode b_TB_removeFromOrder 9 = .ok (.istore 5, 2) := by decide +kernel
theorem d_TB_removeFromOrder_11 : decode b_TB_removeFromOrder 11 = .ok (.iconst (0), 1) := by decide +kernel
theorem d_TB_removeFromOrder_12 : decode b_TB_removeFromOrder 12 = .ok (.istore 6, 2) := by decide +kernel
theorem d_TB_removeFromOrder_14 : decode b_TB_removeFromOrder 14 = .ok (.iload 6, 2) := by decide +kernel
theorem d_TB_removeFromOrder_16 : decode b_TB_removeFromOrder 16 = .ok (.aload_n 0, 1) := by decide +kernel
theorem d_TB_removeFromOrder_17 : decode b_TB_removeFromOrder 17 = .ok (.getfield 27, 3) := by decide +kernel
theorem d_TB_removeFromOrder_20 : decode b_TB_removeFromOrder 20 = .ok (.if_icmp .ge (42), 3) := by decide +kernel
theorem d_TB_removeFromOrder_23 : decode b_TB_removeFromOrder 23 = .ok (.aload 4, 2) := by decide +kernel
theorem d_TB_removeFromOrder_25 : decode b_TB_removeFromOrder 25 = .ok (.iload 6, 2) := by decide +kernel
theorem d_TB_removeFromOrder_27 : decode b_TB_removeFromOrder 27 = .ok (.iaload, 1) := by decide +kernel
theorem d_TB_removeFromOrder_28 : decode b_TB_removeFromOrder 28 = .ok (.istore 7, 2) := by decide +kernel
theorem d_TB_removeFromOrder_30 : decode b_TB_removeFromOrder 30 = .ok (.iload 7, 2) := by decide +kernel
theorem d_TB_removeFromOrder_32 : decode b_TB_removeFromOrder 32 = .ok (.iload_n 2, 1) := by decide +kernel
theorem d_TB_removeFromOrder_33 : decode b_TB_removeFromOrder 33 = .ok (.if_icmp .eq (23), 3) := by decide +kernel
theorem d_TB_removeFromOrder_36 : decode b_TB_removeFromOrder 36 = .ok (.aload 4, 2) := by decide +kernel
theorem d_TB_removeFromOrder_38 : decode b_TB_removeFromOrder 38 = .ok (.iload 5, 2) := by decide +kernel
theorem d_TB_removeFromOrder_40 : decode b_TB_removeFromOrder 40 = .ok (.iload 7, 2) := by decide +kernel
theorem d_TB_removeFromOrder_42 : decode b_TB_removeFromOrder 42 = .ok (.iload_n 3, 1) := by decide +kernel
theorem d_TB_removeFromOrder_43 : decode b_TB_removeFromOrder 43 = .ok (.if_icmp .ne (7), 3) := by decide +kernel
theorem d_TB_removeFromOrder_46 : decode b_TB_removeFromOrder 46 = .ok (.iload_n 2, 1) := by decide +kernel
theorem d_TB_removeFromOrder_47 : decode b_TB_removeFromOrder 47 = .ok (.goto (5), 3) := by decide +kernel
theorem d_TB_removeFromOrder_50 : decode b_TB_removeFromOrder 50 = .ok (.iload 7, 2) := by decide +kernel
theorem d_TB_removeFromOrder_52 : decode b_TB_removeFromOrder 52 = .ok (.iastore, 1) := by decide +kernel
theorem d_TB_removeFromOrder_53 : decode b_TB_removeFromOrder 53 = .ok (.iinc 5 (1), 3) := by decide +kernel
theorem d_TB_removeFromOrder_56 : decode b_TB_removeFromOrder 56 = .ok (.iinc 6 (1), 3) := by decide +kernel
theorem d_TB_removeFromOrder_59 : decode b_TB_removeFromOrder 59 = .ok (.goto (-45), 3) := by decide +kernel
theorem d_TB_removeFromOrder_62 : decode b_TB_removeFromOrder 62 = .ok (.return_, 1) := by decide +kernel
theorem s_TB_removeFromOrder_0 {E : mm_E} {Γ : mm_G} {lev kc ks ca sa : Nat} {w : mm_W} {f : mm_F} (h : mm_ok E Γ b_TB_removeFromOrder 8 "PlannedTables$Table" lev kc ks) (hw : mm_sh w) {t0 : Nat} (ht0 : t0 < 4) {x1 : Int32} {x2 : Int32} {x3 : Int32} (b0 : vp_in x1 4) (k1 : mm_go E Γ 8 14 [(0, mm_rf E (4 + 12 * t0)), (1, .int x1), (2, .int x2), (3, .int x3), (4, mm_rf E (12 + 12 * t0 + (x1).toNatClampNeg)), (5, .int 0), (6, .int 0)] [] w f ca sa) : mm_go E Γ 8 0 [(0, mm_rf E (4 + 12 * t0)), (1, .int x1), (2, .int x2), (3, .int x3)] [] w f ca sa := by
  refine mm_aload_n h d_TB_removeFromOrder_0 0 rfl rfl ?_
  refine mm_getr h fl_TB_20 rfl (is_T hw ht0) (rf_T_order hw ht0) (is_TO hw ht0).1.1 d_TB_removeFromOrder_1 ?_
  refine mm_iload_n h d_TB_removeFromOrder_4 1 rfl rfl ?_
  refine mm_aald h 3 rfl rfl rfl (fun _ => rfl) (is_TO hw ht0) b0 (ra_TO hw ht0 (mm_in_lt b0)) (is_TP hw ht0 (mm_in_lt b0)).1.1 d_TB_removeFromOrder_5 ?_
  refine mm_astore (lv' := [(4, mm_rf E (12 + 12 * t0 + (x1).toNatClampNeg)), (0, mm_rf E (4 + 12 * t0)), (1, .int x1), (2, .int x2), (3, .int x3)]) h d_TB_removeFromOrder_6 (by decide) rfl ?_
  refine mm_iconst (v := 0) h d_TB_removeFromOrder_8 (by decide) ?_
  refine mm_istore (lv' := [(5, .int 0), (4, mm_rf E (12 + 12 * t0 + (x1).toNatClampNeg)), (0, mm_rf E (4 + 12 * t0)), (1, .int x1), (2, .int x2), (3, .int x3)]) h d_TB_removeFromOrder_9 (by decide) rfl ?_
  refine mm_iconst (v := 0) h d_TB_removeFromOrder_11 (by decide) ?_
  refine mm_istore (lv' := [(6, .int 0), (5, .int 0), (4, mm_rf E (12 + 12 * t0 + (x1).toNatClampNeg)), (0, mm_rf E (4 + 12 * t0)), (1, .int x1), (2, .int x2), (3, .int x3)]) h d_TB_removeFromOrder_12 (by decide) rfl ?_
  refine mm_sub [3, 4, 5, 6, 2, 1, 0] rfl ?_
  exact k1
theorem s_TB_removeFromOrder_14 {E : mm_E} {Γ : mm_G} {lev kc ks ca sa : Nat} {w : mm_W} {f : mm_F} {Post : Option Value → mm_W → mm_F → Prop} (h : mm_ok E Γ b_TB_removeFromOrder 8 "PlannedTables$Table" lev kc ks) (he : mm_end E Γ none kc ks Post y_TB_removeFromOrder.name) (hca : ca ≤ kc) (hsa : sa ≤ ks) (hw : mm_sh w) {t0 : Nat} (ht0 : t0 < 4) {x1 : Int32} {x2 : Int32} {x3 : Int32} {t4 : Nat} (ht4 : t4 < 4) {c4 : Nat} (hc4 : c4 < 4) {x5 : Int32} {x6 : Int32} (k0 : (f (4 + 12 * t0) 1) ≤ x6 → Post none w f) (b1 : ¬ (f (4 + 12 * t0) 1) ≤ x6 → vp_in x6 48) (k2 : ¬ (f (4 + 12 * t0) 1) ≤ x6 → (f (12 + 12 * t4 + c4) (x6).toNatClampNeg) = x2 → mm_go E Γ 8 56 [(0, mm_rf E (4 + 12 * t0)), (1, .int x1), (2, .int x2), (3, .int x3), (4, mm_rf E (12 + 12 * t4 + c4)), (5, .int x5), (6, .int x6), (7, .int (f (12 + 12 * t4 + c4) (x6).toNatClampNeg))] [] w f ca sa) (k3 : ¬ (f (4 + 12 * t0) 1) ≤ x6 → ¬ (f (12 + 12 * t4 + c4) (x6).toNatClampNeg) = x2 → ¬ (f (12 + 12 * t4 + c4) (x6).toNatClampNeg) = x3 → mm_go E Γ 8 52 [(0, mm_rf E (4 + 12 * t0)), (1, .int x1), (2, .int x2), (3, .int x3), (4, mm_rf E (12 + 12 * t4 + c4)), (5, .int x5), (6, .int x6), (7, .int (f (12 + 12 * t4 + c4) (x6).toNatClampNeg))] [.int (f (12 + 12 * t4 + c4) (x6).toNatClampNeg), .int x5, mm_rf E (12 + 12 * t4 + c4)] w f ca sa) (k4 : ¬ (f (4 + 12 * t0) 1) ≤ x6 → ¬ (f (12 + 12 * t4 + c4) (x6).toNatClampNeg) = x2 → (f (12 + 12 * t4 + c4) (x6).toNatClampNeg) = x3 → mm_go E Γ 8 52 [(0, mm_rf E (4 + 12 * t0)), (1, .int x1), (2, .int x2), (3, .int x3), (4, mm_rf E (12 + 12 * t4 + c4)), (5, .int x5), (6, .int x6), (7, .int (f (12 + 12 * t4 + c4) (x6).toNatClampNeg))] [.int x2, .int x5, mm_rf E (12 + 12 * t4 + c4)] w f ca sa) : mm_go E Γ 8 14 [(0, mm_rf E (4 + 12 * t0)), (1, .int x1), (2, .int x2), (3, .int x3), (4, mm_rf E (12 + 12 * t4 + c4)), (5, .int x5), (6, .int x6)] [] w f ca sa := by
  refine mm_iload h d_TB_removeFromOrder_14 6 rfl ?_
  refine mm_aload_n h d_TB_removeFromOrder_16 0 rfl rfl ?_
  refine mm_geti h fl_TB_27 rfl (is_T hw ht0) d_TB_removeFromOrder_17 ?_
  refine mm_icmp_ge h d_TB_removeFromOrder_20 (tgt := 62) (by decide) (fun c1 => ?_) (fun c1 => ?_)
  · skip
    exact mm_vret h he d_TB_removeFromOrder_62 hca hsa (k0 c1)
  · skip
    refine mm_aload h d_TB_removeFromOrder_23 4 rfl ?_
    refine mm_iload h d_TB_removeFromOrder_25 6 rfl ?_
    refine mm_iald h (is_TP hw ht4 hc4) (b1 c1) d_TB_removeFromOrder_27 ?_
    refine mm_istore (lv' := [(7, .int (f (12 + 12 * t4 + c4) (x6).toNatClampNeg)), (0, mm_rf E (4 + 12 * t0)), (1, .int x1), (2, .int x2), (3, .int x3), (4, mm_rf E (12 + 12 * t4 + c4)), (5, .int x5), (6, .int x6)]) h d_TB_removeFromOrder_28 (by decide) rfl ?_
    refine mm_iload h d_TB_removeFromOrder_30 0 rfl ?_
    refine mm_iload_n h d_TB_removeFromOrder_32 3 rfl rfl ?_
    refine mm_icmp_eq h d_TB_removeFromOrder_33 (tgt := 56) (by decide) (fun c2 => ?_) (fun c2 => ?_)
    · skip
      refine mm_sub [1, 2, 3, 4, 5, 6, 7, 0] rfl ?_
      exact (k2 c1 c2)
    · skip
      refine mm_aload h d_TB_removeFromOrder_36 5 rfl ?_
      refine mm_iload h d_TB_removeFromOrder_38 6 rfl ?_
      refine mm_iload h d_TB_removeFromOrder_40 0 rfl ?_
      refine mm_iload_n h d_TB_removeFromOrder_42 4 rfl rfl ?_
      refine mm_icmp_ne h d_TB_removeFromOrder_43 (tgt := 50) (by decide) (fun c3 => ?_) (fun c3 => ?_)
      · skip
        refine mm_iload h d_TB_removeFromOrder_50 0 rfl ?_
        refine mm_sub [1, 2, 3, 4, 5, 6, 7, 0] rfl ?_
        exact (k3 c1 c2 c3)
      · skip
        refine mm_iload_n h d_TB_removeFromOrder_46 3 rfl rfl ?_
        refine mm_goto h d_TB_removeFromOrder_47 (tgt := 52) (by decide) ?_
        refine mm_sub [1, 2, 3, 4, 5, 6, 7, 0] rfl ?_
        exact (k4 c1 c2 c3)
theorem s_TB_removeFromOrder_52 {E : mm_E} {Γ : mm_G} {lev kc ks ca sa : Nat} {w : mm_W} {f : mm_F} (h : mm_ok E Γ b_TB_removeFromOrder 8 "PlannedTables$Table" lev kc ks) (hw : mm_sh w) {t0 : Nat} (ht0 : t0 < 4) {x1 : Int32} {x2 : Int32} {x3 : Int32} {t4 : Nat} (ht4 : t4 < 4) {c4 : Nat} (hc4 : c4 < 4) {x5 : Int32} {x6 : Int32} {x7 : Int32} {tk0 : Nat} (htk0 : tk0 < 4) {ck0 : Nat} (hck0 : ck0 < 4) {xk1 : Int32} {xk2 : Int32} (b0 : vp_in xk1 48) (k1 : mm_go E Γ 8 56 [(0, mm_rf E (4 + 12 * t0)), (1, .int x1), (2, .int x2), (3, .int x3), (4, mm_rf E (12 + 12 * t4 + c4)), (5, .int (x5 + 1)), (6, .int x6), (7, .int x7)] [] w (mm_up f (12 + 12 * tk0 + ck0) (xk1).toNatClampNeg xk2) ca sa) : mm_go E Γ 8 52 [(0, mm_rf E (4 + 12 * t0)), (1, .int x1), (2, .int x2), (3, .int x3), (4, mm_rf E (12 + 12 * t4 + c4)), (5, .int x5), (6, .int x6), (7, .int x7)] [.int xk2, .int xk1, mm_rf E (12 + 12 * tk0 + ck0)] w f ca sa := by
  refine mm_iast h (is_TP hw htk0 hck0) b0 d_TB_removeFromOrder_52 ?_
  refine mm_iinc (lv' := [(5, .int (x5 + 1)), (0, mm_rf E (4 + 12 * t0)), (1, .int x1), (2, .int x2), (3, .int x3), (4, mm_rf E (12 + 12 * t4 + c4)), (6, .int x6), (7, .int x7)]) h d_TB_removeFromOrder_53 5 rfl (congrArg (fun z => x5 + z) lit1) (by decide) rfl ?_
  refine mm_sub [1, 2, 3, 4, 5, 0, 6, 7] rfl ?_
  exact k1
theorem s_TB_removeFromOrder_56 {E : mm_E} {Γ : mm_G} {lev kc ks ca sa : Nat} {w : mm_W} {f : mm_F} (h : mm_ok E Γ b_TB_removeFromOrder 8 "PlannedTables$Table" lev kc ks) (hw : mm_sh w) {t0 : Nat} (ht0 : t0 < 4) {x1 : Int32} {x2 : Int32} {x3 : Int32} {t4 : Nat} (ht4 : t4 < 4) {c4 : Nat} (hc4 : c4 < 4) {x5 : Int32} {x6 : Int32} {x7 : Int32} (k0 : mm_go E Γ 8 14 [(0, mm_rf E (4 + 12 * t0)), (1, .int x1), (2, .int x2), (3, .int x3), (4, mm_rf E (12 + 12 * t4 + c4)), (5, .int x5), (6, .int (x6 + 1))] [] w f ca sa) : mm_go E Γ 8 56 [(0, mm_rf E (4 + 12 * t0)), (1, .int x1), (2, .int x2), (3, .int x3), (4, mm_rf E (12 + 12 * t4 + c4)), (5, .int x5), (6, .int x6), (7, .int x7)] [] w f ca sa := by
  refine mm_iinc (lv' := [(6, .int (x6 + 1)), (0, mm_rf E (4 + 12 * t0)), (1, .int x1), (2, .int x2), (3, .int x3), (4, mm_rf E (12 + 12 * t4 + c4)), (5, .int x5), (7, .int x7)]) h d_TB_removeFromOrder_56 6 rfl (congrArg (fun z => x6 + z) lit1) (by decide) rfl ?_
  refine mm_goto h d_TB_removeFromOrder_59 (tgt := 14) (by decide) ?_
  refine mm_sub [1, 2, 3, 4, 5, 6, 0] rfl ?_
  exact k0
theorem d_TB_copyRow_0 : decode b_TB_copyRow 0 = .ok (.aload_n 0, 1) := by decide +kernel
theorem d_TB_copyRow_1 : decode b_TB_copyRow 1 = .ok (.getfield 20, 3) := by decide +kernel
theorem d_TB_copyRow_4 : decode b_TB_copyRow 4 = .ok (.iload_n 1, 1) := by decide +kernel
theorem d_TB_copyRow_5 : decode b_TB_copyRow 5 = .ok (.aaload, 1) := by decide +kernel
theorem d_TB_copyRow_6 : decode b_TB_copyRow 6 = .ok (.iload_n 2, 1) := by decide +kernel
theorem d_TB_copyRow_7 : decode b_TB_copyRow 7 = .ok (.iaload, 1) := by decide +kernel
theorem d_TB_copyRow_8 : decode b_TB_copyRow 8 = .ok (.istore 5, 2) := by decide +kernel
theorem d_TB_copyRow_10 : decode b_TB_copyRow 10 = .ok (.iconst (0), 1) := by decide +kernel
theorem d_TB_copyRow_11 : decode b_TB_copyRow 11 = .ok (.istore 6, 2) := by decide +kernel
theorem d_TB_copyRow_13 : decode b_TB_copyRow 13 = .ok (.iload 6, 2) := by decide +kernel
theorem d_TB_copyRow_15 : decode b_TB_copyRow 15 = .ok (.aload_n 0, 1) := by decide +kernel
theorem d_TB_copyRow_16 : decode b_TB_copyRow 16 = .ok (.getfield 23, 3) := by decide +kernel
theorem d_TB_copyRow_19 : decode b_TB_copyRow 19 = .ok (.if_icmp .ge (26), 3) := by decide +kernel
theorem d_TB_copyRow_22 : decode b_TB_copyRow 22 = .ok (.aload_n 3, 1) := by decide +kernel
theorem d_TB_copyRow_23 : decode b_TB_copyRow 23 = .ok (.iload 4, 2) := by decide +kernel
theorem d_TB_copyRow_25 : decode b_TB_copyRow 25 = .ok (.iload 6, 2) := by decide +kernel
theorem d_TB_copyRow_27 : decode b_TB_copyRow 27 = .ok (.iadd, 1) := by decide +kernel
theorem d_TB_copyRow_28 : decode b_TB_copyRow 28 = .ok (.aload_n 0, 1) := by decide +kernel
theorem d_TB_copyRow_29 : decode b_TB_copyRow 29 = .ok (.getfield 17, 3) := by decide +kernel
theorem d_TB_copyRow_32 : decode b_TB_copyRow 32 = .ok (.iload 6, 2) := by decide +kernel
theorem d_TB_copyRow_34 : decode b_TB_copyRow 34 = .ok (.aaload, 1) := by decide +kernel
theorem d_TB_copyRow_35 : decode b_TB_copyRow 35 = .ok (.iload 5, 2) := by decide +kernel
theorem d_TB_copyRow_37 : decode b_TB_copyRow 37 = .ok (.iaload, 1) := by decide +kernel
theorem d_TB_copyRow_38 : decode b_TB_copyRow 38 = .ok (.iastore, 1) := by decide +kernel
theorem d_TB_copyRow_39 : decode b_TB_copyRow 39 = .ok (.iinc 6 (1), 3) := by decide +kernel
theorem d_TB_copyRow_42 : decode b_TB_copyRow 42 = .ok (.goto (-29), 3) := by decide +kernel
theorem d_TB_copyRow_45 : decode b_TB_copyRow 45 = .ok (.return_, 1) := by decide +kernel
theorem s_TB_copyRow_0 {E : mm_E} {Γ : mm_G} {lev kc ks ca sa : Nat} {w : mm_W} {f : mm_F} (h : mm_ok E Γ b_TB_copyRow 7 "PlannedTables$Table" lev kc ks) (hw : mm_sh w) {t0 : Nat} (ht0 : t0 < 4) {x1 : Int32} {x2 : Int32} {n3 : Nat} (hn3 : mm_run w n3) {x4 : Int32} (b0 : vp_in x1 4) (b1 : vp_in x2 48) (k2 : mm_go E Γ 7 13 [(0, mm_rf E (4 + 12 * t0)), (1, .int x1), (2, .int x2), (3, mm_rf E (n3 + 1)), (4, .int x4), (5, .int (f (12 + 12 * t0 + (x1).toNatClampNeg) (x2).toNatClampNeg)), (6, .int 0)] [] w f ca sa) : mm_go E Γ 7 0 [(0, mm_rf E (4 + 12 * t0)), (1, .int x1), (2, .int x2), (3, mm_rf E (n3 + 1)), (4, .int x4)] [] w f ca sa := by
  refine mm_aload_n h d_TB_copyRow_0 0 rfl rfl ?_
  refine mm_getr h fl_TB_20 rfl (is_T hw ht0) (rf_T_order hw ht0) (is_TO hw ht0).1.1 d_TB_copyRow_1 ?_
  refine mm_iload_n h d_TB_copyRow_4 1 rfl rfl ?_
  refine mm_aald h 3 rfl rfl rfl (fun _ => rfl) (is_TO hw ht0) b0 (ra_TO hw ht0 (mm_in_lt b0)) (is_TP hw ht0 (mm_in_lt b0)).1.1 d_TB_copyRow_5 ?_
  refine mm_iload_n h d_TB_copyRow_6 2 rfl rfl ?_
  refine mm_iald h (is_TP hw ht0 (mm_in_lt b0)) b1 d_TB_copyRow_7 ?_
  refine mm_istore (lv' := [(5, .int (f (12 + 12 * t0 + (x1).toNatClampNeg) (x2).toNatClampNeg)), (0, mm_rf E (4 + 12 * t0)), (1, .int x1), (2, .int x2), (3, mm_rf E (n3 + 1)), (4, .int x4)]) h d_TB_copyRow_8 (by decide) rfl ?_
  refine mm_iconst (v := 0) h d_TB_copyRow_10 (by decide) ?_
  refine mm_istore (lv' := [(6, .int 0), (5, .int (f (12 + 12 * t0 + (x1).toNatClampNeg) (x2).toNatClampNeg)), (0, mm_rf E (4 + 12 * t0)), (1, .int x1), (2, .int x2), (3, mm_rf E (n3 + 1)), (4, .int x4)]) h d_TB_copyRow_11 (by decide) rfl ?_
  refine mm_sub [2, 3, 4, 5, 6, 1, 0] rfl ?_
  exact k2
theorem s_TB_copyRow_13 {E : mm_E} {Γ : mm_G} {lev kc ks ca sa : Nat} {w : mm_W} {f : mm_F} {Post : Option Value → mm_W → mm_F → Prop} (h : mm_ok E Γ b_TB_copyRow 7 "PlannedTables$Table" lev kc ks) (he : mm_end E Γ none kc ks Post y_TB_copyRow.name) (hca : ca ≤ kc) (hsa : sa ≤ ks) (hw : mm_sh w) {t0 : Nat} (ht0 : t0 < 4) {x1 : Int32} {x2 : Int32} {n3 : Nat} (hn3 : mm_run w n3) {x4 : Int32} {x5 : Int32} {x6 : Int32} (k0 : (f (4 + 12 * t0) 0) ≤ x6 → Post none w f) (b1 : ¬ (f (4 + 12 * t0) 0) ≤ x6 → vp_in x6 4) (b2 : ¬ (f (4 + 12 * t0) 0) ≤ x6 → vp_in x5 48) (b3 : ¬ (f (4 + 12 * t0) 0) ≤ x6 → vp_in (x4 + x6) 8) (k4 : ¬ (f (4 + 12 * t0) 0) ≤ x6 → mm_go E Γ 7 13 [(0, mm_rf E (4 + 12 * t0)), (1, .int x1), (2, .int x2), (3, mm_rf E (n3 + 1)), (4, .int x4), (5, .int x5), (6, .int (x6 + 1))] [] w (mm_up f (n3 + 1) ((x4 + x6)).toNatClampNeg (f (7 + 12 * t0 + (x6).toNatClampNeg) (x5).toNatClampNeg)) ca sa) : mm_go E Γ 7 13 [(0, mm_rf E (4 + 12 * t0)), (1, .int x1), (2, .int x2), (3, mm_rf E (n3 + 1)), (4, .int x4), (5, .int x5), (6, .int x6)] [] w f ca sa := by
  refine mm_iload h d_TB_copyRow_13 6 rfl ?_
  refine mm_aload_n h d_TB_copyRow_15 0 rfl rfl ?_
  refine mm_geti h fl_TB_23 rfl (is_T hw ht0) d_TB_copyRow_16 ?_
  refine mm_icmp_ge h d_TB_copyRow_19 (tgt := 45) (by decide) (fun c1 => ?_) (fun c1 => ?_)
  · skip
    exact mm_vret h he d_TB_copyRow_45 hca hsa (k0 c1)
  · skip
    refine mm_aload_n h d_TB_copyRow_22 3 rfl rfl ?_
    refine mm_iload h d_TB_copyRow_23 4 rfl ?_
    refine mm_iload h d_TB_copyRow_25 6 rfl ?_
    refine mm_iadd h d_TB_copyRow_27 ?_
    refine mm_aload_n h d_TB_copyRow_28 0 rfl rfl ?_
    refine mm_getr h fl_TB_17 rfl (is_T hw ht0) (rf_T_cells hw ht0) (is_TC hw ht0).1.1 d_TB_copyRow_29 ?_
    refine mm_iload h d_TB_copyRow_32 6 rfl ?_
    refine mm_aald h 3 rfl rfl rfl (fun _ => rfl) (is_TC hw ht0) (b1 c1) (ra_TC hw ht0 (mm_in_lt (b1 c1))) (is_TK hw ht0 (mm_in_lt (b1 c1))).1.1 d_TB_copyRow_34 ?_
    refine mm_iload h d_TB_copyRow_35 5 rfl ?_
    refine mm_iald h (is_TK hw ht0 (mm_in_lt (b1 c1))) (b2 c1) d_TB_copyRow_37 ?_
    refine mm_iast h hn3.2.2.2.2.2.2 (b3 c1) d_TB_copyRow_38 ?_
    refine mm_iinc (lv' := [(6, .int (x6 + 1)), (0, mm_rf E (4 + 12 * t0)), (1, .int x1), (2, .int x2), (3, mm_rf E (n3 + 1)), (4, .int x4), (5, .int x5)]) h d_TB_copyRow_39 6 rfl (congrArg (fun z => x6 + z) lit1) (by decide) rfl ?_
    refine mm_goto h d_TB_copyRow_42 (tgt := 13) (by decide) ?_
    refine mm_sub [1, 2, 3, 4, 5, 6, 0] rfl ?_
    exact (k4 c1)
