/-! Segments. -/
theorem d_OP_empty_0 : decode b_OP_empty 0 = .ok (.aload_n 0, 1) := by decide +kernel
theorem d_OP_empty_1 : decode b_OP_empty 1 = .ok (.iconst (0), 1) := by decide +kernel
theorem d_OP_empty_2 : decode b_OP_empty 2 = .ok (.putfield 15, 3) := by decide +kernel
theorem d_OP_empty_5 : decode b_OP_empty 5 = .ok (.aload_n 0, 1) := by decide +kernel
theorem d_OP_empty_6 : decode b_OP_empty 6 = .ok (.iconst (0), 1) := by decide +kernel
theorem d_OP_empty_7 : decode b_OP_empty 7 = .ok (.putfield 19, 3) := by decide +kernel
theorem d_OP_empty_10 : decode b_OP_empty 10 = .ok (.return_, 1) := by decide +kernel
theorem s_OP_empty_0 {E : mm_E} {Γ : mm_G} {lev kc ks ca sa : Nat} {w : mm_W} {f : mm_F} {Post : Option Value → mm_W → mm_F → Prop} (h : mm_ok E Γ b_OP_empty 1 "PlannedTables$Output" lev kc ks) (he : mm_end E Γ none kc ks Post y_OP_empty.name) (hca : ca ≤ kc) (hsa : sa ≤ ks) (hw : mm_sh w)  (k0 : Post none w (mm_up (mm_up f 134 1 0) 134 2 0)) : mm_go E Γ 1 0 [(0, mm_rf E 134)] [] w f ca sa := by
  refine mm_aload_n h d_OP_empty_0 0 rfl rfl ?_
  refine mm_iconst (v := 0) h d_OP_empty_1 (by decide) ?_
  refine mm_puti h fl_OP_15 (Or.inl rfl) rfl rfl rfl (is_OU hw) d_OP_empty_2 ?_
  refine mm_aload_n h d_OP_empty_5 0 rfl rfl ?_
  refine mm_iconst (v := 0) h d_OP_empty_6 (by decide) ?_
  refine mm_puti h fl_OP_19 (Or.inl rfl) rfl rfl rfl (is_OU hw) d_OP_empty_7 ?_
  exact mm_vret h he d_OP_empty_10 hca hsa k0
theorem d_OP_add_0 : decode b_OP_add 0 = .ok (.aload_n 0, 1) := by decide +kernel
theorem d_OP_add_1 : decode b_OP_add 1 = .ok (.getfield 15, 3) := by decide +kernel
theorem d_OP_add_4 : decode b_OP_add 4 = .ok (.iload_n 2, 1) := by decide +kernel
theorem d_OP_add_5 : decode b_OP_add 5 = .ok (.iadd, 1) := by decide +kernel
theorem d_OP_add_6 : decode b_OP_add 6 = .ok (.bipush (64), 2) := by decide +kernel
theorem d_OP_add_8 : decode b_OP_add 8 = .ok (.if_icmp .le (5), 3) := by decide +kernel
theorem d_OP_add_11 : decode b_OP_add 11 = .ok (.iconst (0), 1) := by decide +kernel
theorem d_OP_add_12 : decode b_OP_add 12 = .ok (.ireturn, 1) := by decide +kernel
theorem d_OP_add_13 : decode b_OP_add 13 = .ok (.iconst (0), 1) := by decide +kernel
theorem d_OP_add_14 : decode b_OP_add 14 = .ok (.istore_n 3, 1) := by decide +kernel
theorem d_OP_add_15 : decode b_OP_add 15 = .ok (.iload_n 3, 1) := by decide +kernel
theorem d_OP_add_16 : decode b_OP_add 16 = .ok (.iload_n 2, 1) := by decide +kernel
theorem d_OP_add_17 : decode b_OP_add 17 = .ok (.if_icmp .ge (23), 3) := by decide +kernel
theorem d_OP_add_20 : decode b_OP_add 20 = .ok (.aload_n 0, 1) := by decide +kernel
theorem d_OP_add_21 : decode b_OP_add 21 = .ok (.getfield 9, 3) := by decide +kernel
theorem d_OP_add_24 : decode b_OP_add 24 = .ok (.aload_n 0, 1) := by decide +kernel
theorem d_OP_add_25 : decode b_OP_add 25 = .ok (.getfield 15, 3) := by decide +kernel
theorem d_OP_add_28 : decode b_OP_add 28 = .ok (.iload_n 3, 1) := by decide +kernel
theorem d_OP_add_29 : decode b_OP_add 29 = .ok (.iadd, 1) := by decide +kernel
theorem d_OP_add_30 : decode b_OP_add 30 = .ok (.aload_n 1, 1) := by decide +kernel
theorem d_OP_add_31 : decode b_OP_add 31 = .ok (.iload_n 3, 1) := by decide +kernel
theorem d_OP_add_32 : decode b_OP_add 32 = .ok (.iaload, 1) := by decide +kernel
theorem d_OP_add_33 : decode b_OP_add 33 = .ok (.iastore, 1) := by decide +kernel
theorem d_OP_add_34 : decode b_OP_add 34 = .ok (.iinc 3 (1), 3) := by decide +kernel
theorem d_OP_add_37 : decode b_OP_add 37 = .ok (.goto (-22), 3) := by decide +kernel
theorem d_OP_add_40 : decode b_OP_add 40 = .ok (.aload_n 0, 1) := by decide +kernel
theorem d_OP_add_41 : decode b_OP_add 41 = .ok (.dup, 1) := by decide +kernel
theorem d_OP_add_42 : decode b_OP_add 42 = .ok (.getfield 15, 3) := by decide +kernel
theorem d_OP_add_45 : decode b_OP_add 45 = .ok (.iload_n 2, 1) := by decide +kernel
theorem d_OP_add_46 : decode b_OP_add 46 = .ok (.iadd, 1) := by decide +kernel
theorem d_OP_add_47 : decode b_OP_add 47 = .ok (.putfield 15, 3) := by decide +kernel
theorem d_OP_add_50 : decode b_OP_add 50 = .ok (.aload_n 0, 1) := by decide +kernel
theorem d_OP_add_51 : decode b_OP_add 51 = .ok (.dup, 1) := by decide +kernel
theorem d_OP_add_52 : decode b_OP_add 52 = .ok (.getfield 19, 3) := by decide +kernel
theorem d_OP_add_55 : decode b_OP_add 55 = .ok (.iconst (1), 1) := by decide +kernel
theorem d_OP_add_56 : decode b_OP_add 56 = .ok (.iadd, 1) := by decide +kernel
theorem d_OP_add_57 : decode b_OP_add 57 = .ok (.putfield 19, 3) := by decide +kernel
theorem d_OP_add_60 : decode b_OP_add 60 = .ok (.iconst (1), 1) := by decide +kernel
theorem d_OP_add_61 : decode b_OP_add 61 = .ok (.ireturn, 1) := by decide +kernel
theorem s_OP_add_0 {E : mm_E} {Γ : mm_G} {lev kc ks ca sa : Nat} {w : mm_W} {f : mm_F} {Post : Option Value → mm_W → mm_F → Prop} (h : mm_ok E Γ b_OP_add 4 "PlannedTables$Output" lev kc ks) (he : mm_end E Γ (some .boolean) kc ks Post y_OP_add.name) (hca : ca ≤ kc) (hsa : sa ≤ ks) (hw : mm_sh w) {n1 : Nat} (hn1 : mm_run w n1) {x2 : Int32} (k0 : ((f 134 1) + x2) ≤ 64 → mm_go E Γ 4 15 [(0, mm_rf E 134), (1, mm_rf E (n1 + 1)), (2, .int x2), (3, .int 0)] [] w f ca sa) (k1 : ¬ ((f 134 1) + x2) ≤ 64 → Post (some (.int 0)) w f) : mm_go E Γ 4 0 [(0, mm_rf E 134), (1, mm_rf E (n1 + 1)), (2, .int x2)] [] w f ca sa := by
  refine mm_aload_n h d_OP_add_0 0 rfl rfl ?_
  refine mm_geti h fl_OP_15 rfl (is_OU hw) d_OP_add_1 ?_
  refine mm_iload_n h d_OP_add_4 2 rfl rfl ?_
  refine mm_iadd h d_OP_add_5 ?_
  refine mm_bipush (v := 64) h d_OP_add_6 (by decide) ?_
  refine mm_icmp_le h d_OP_add_8 (tgt := 13) (by decide) (fun c1 => ?_) (fun c1 => ?_)
  · skip
    refine mm_iconst (v := 0) h d_OP_add_13 (by decide) ?_
    refine mm_istore_n (lv' := [(3, .int 0), (0, mm_rf E 134), (1, mm_rf E (n1 + 1)), (2, .int x2)]) h d_OP_add_14 rfl (by decide) rfl ?_
    refine mm_sub [1, 2, 3, 0] rfl ?_
    exact (k0 c1)
  · skip
    refine mm_iconst (v := 0) h d_OP_add_11 (by decide) ?_
    exact mm_iret h he rfl d_OP_add_12 hca hsa (k1 c1)
theorem s_OP_add_15 {E : mm_E} {Γ : mm_G} {lev kc ks ca sa : Nat} {w : mm_W} {f : mm_F} {Post : Option Value → mm_W → mm_F → Prop} (h : mm_ok E Γ b_OP_add 4 "PlannedTables$Output" lev kc ks) (he : mm_end E Γ (some .boolean) kc ks Post y_OP_add.name) (hca : ca ≤ kc) (hsa : sa ≤ ks) (hw : mm_sh w) {n1 : Nat} (hn1 : mm_run w n1) {x2 : Int32} {x3 : Int32} (k0 : x2 ≤ x3 → Post (some (.int 1)) w (mm_up (mm_up f 134 1 ((f 134 1) + x2)) 134 2 (((mm_up f 134 1 ((f 134 1) + x2)) 134 2) + 1))) (b1 : ¬ x2 ≤ x3 → vp_in x3 8) (b2 : ¬ x2 ≤ x3 → vp_in ((f 134 1) + x3) 64) (k3 : ¬ x2 ≤ x3 → mm_go E Γ 4 15 [(0, mm_rf E 134), (1, mm_rf E (n1 + 1)), (2, .int x2), (3, .int (x3 + 1))] [] w (mm_up f 135 (((f 134 1) + x3)).toNatClampNeg (f (n1 + 1) (x3).toNatClampNeg)) ca sa) : mm_go E Γ 4 15 [(0, mm_rf E 134), (1, mm_rf E (n1 + 1)), (2, .int x2), (3, .int x3)] [] w f ca sa := by
  refine mm_iload_n h d_OP_add_15 3 rfl rfl ?_
  refine mm_iload_n h d_OP_add_16 2 rfl rfl ?_
  refine mm_icmp_ge h d_OP_add_17 (tgt := 40) (by decide) (fun c1 => ?_) (fun c1 => ?_)
  · skip
    refine mm_aload_n h d_OP_add_40 0 rfl rfl ?_
    refine mm_dup h d_OP_add_41 rfl ?_
    refine mm_geti h fl_OP_15 rfl (is_OU hw) d_OP_add_42 ?_
    refine mm_iload_n h d_OP_add_45 2 rfl rfl ?_
    refine mm_iadd h d_OP_add_46 ?_
    refine mm_puti h fl_OP_15 (Or.inl rfl) rfl rfl rfl (is_OU hw) d_OP_add_47 ?_
    refine mm_aload_n h d_OP_add_50 0 rfl rfl ?_
    refine mm_dup h d_OP_add_51 rfl ?_
    refine mm_geti h fl_OP_19 rfl (is_OU hw) d_OP_add_52 ?_
    refine mm_iconst (v := 1) h d_OP_add_55 (by decide) ?_
    refine mm_iadd h d_OP_add_56 ?_
    refine mm_puti h fl_OP_19 (Or.inl rfl) rfl rfl rfl (is_OU hw) d_OP_add_57 ?_
    refine mm_iconst (v := 1) h d_OP_add_60 (by decide) ?_
    exact mm_iret h he rfl d_OP_add_61 hca hsa (k0 c1)
  · skip
    refine mm_aload_n h d_OP_add_20 0 rfl rfl ?_
    refine mm_getr h fl_OP_9 rfl (is_OU hw) (rf_OU_cells hw) (is_OC hw).1.1 d_OP_add_21 ?_
    refine mm_aload_n h d_OP_add_24 0 rfl rfl ?_
    refine mm_geti h fl_OP_15 rfl (is_OU hw) d_OP_add_25 ?_
    refine mm_iload_n h d_OP_add_28 3 rfl rfl ?_
    refine mm_iadd h d_OP_add_29 ?_
    refine mm_aload_n h d_OP_add_30 1 rfl rfl ?_
    refine mm_iload_n h d_OP_add_31 3 rfl rfl ?_
    refine mm_iald h hn1.2.2.2.2.2.2 (b1 c1) d_OP_add_32 ?_
    refine mm_iast h (is_OC hw) (b2 c1) d_OP_add_33 ?_
    refine mm_iinc (lv' := [(3, .int (x3 + 1)), (0, mm_rf E 134), (1, mm_rf E (n1 + 1)), (2, .int x2)]) h d_OP_add_34 3 rfl (congrArg (fun z => x3 + z) lit1) (by decide) rfl ?_
    refine mm_goto h d_OP_add_37 (tgt := 15) (by decide) ?_
    refine mm_sub [1, 2, 3, 0] rfl ?_
    exact (k3 c1)
theorem d_TS_has_0 : decode b_TS_has 0 = .ok (.iload_n 1, 1) := by decide +kernel
theorem d_TS_has_1 : decode b_TS_has 1 = .ok (.ifCond .lt (15), 3) := by decide +kernel
theorem d_TS_has_4 : decode b_TS_has 4 = .ok (.iload_n 1, 1) := by decide +kernel
theorem d_TS_has_5 : decode b_TS_has 5 = .ok (.aload_n 0, 1) := by decide +kernel
theorem d_TS_has_6 : decode b_TS_has 6 = .ok (.getfield 18, 3) := by decide +kernel
theorem d_TS_has_9 : decode b_TS_has 9 = .ok (.if_icmp .ge (7), 3) := by decide +kernel
theorem d_TS_has_12 : decode b_TS_has 12 = .ok (.iconst (1), 1) := by decide +kernel
theorem d_TS_has_13 : decode b_TS_has 13 = .ok (.goto (4), 3) := by decide +kernel
theorem d_TS_has_16 : decode b_TS_has 16 = .ok (.iconst (0), 1) := by decide +kernel
theorem d_TS_has_17 : decode b_TS_has 17 = .ok (.ireturn, 1) := by decide +kernel
theorem s_TS_has_0 {E : mm_E} {Γ : mm_G} {lev kc ks ca sa : Nat} {w : mm_W} {f : mm_F} (h : mm_ok E Γ b_TS_has 2 "PlannedTables$Tables" lev kc ks) (hw : mm_sh w) {x1 : Int32} (k0 : x1 < 0 → mm_go E Γ 2 16 [(0, mm_rf E 2), (1, .int x1)] [] w f ca sa) (k1 : ¬ x1 < 0 → (f 2 1) ≤ x1 → mm_go E Γ 2 16 [(0, mm_rf E 2), (1, .int x1)] [] w f ca sa) (k2 : ¬ x1 < 0 → ¬ (f 2 1) ≤ x1 → mm_go E Γ 2 17 [(0, mm_rf E 2), (1, .int x1)] [.int 1] w f ca sa) : mm_go E Γ 2 0 [(0, mm_rf E 2), (1, .int x1)] [] w f ca sa := by
  refine mm_iload_n h d_TS_has_0 1 rfl rfl ?_
  refine mm_if_lt h d_TS_has_1 (tgt := 16) (by decide) (fun c1 => ?_) (fun c1 => ?_)
  · skip
    exact (k0 c1)
  · skip
    refine mm_iload_n h d_TS_has_4 1 rfl rfl ?_
    refine mm_aload_n h d_TS_has_5 0 rfl rfl ?_
    refine mm_geti h fl_TS_18 rfl (is_TS hw) d_TS_has_6 ?_
    refine mm_icmp_ge h d_TS_has_9 (tgt := 16) (by decide) (fun c2 => ?_) (fun c2 => ?_)
    · skip
      exact (k1 c1 c2)
    · skip
      refine mm_iconst (v := 1) h d_TS_has_12 (by decide) ?_
      refine mm_goto h d_TS_has_13 (tgt := 17) (by decide) ?_
      exact (k2 c1 c2)
theorem s_TS_has_16 {E : mm_E} {Γ : mm_G} {lev kc ks ca sa : Nat} {w : mm_W} {f : mm_F} (h : mm_ok E Γ b_TS_has 2 "PlannedTables$Tables" lev kc ks) (hw : mm_sh w) {x1 : Int32} (k0 : mm_go E Γ 2 17 [(0, mm_rf E 2), (1, .int x1)] [.int 0] w f ca sa) : mm_go E Γ 2 16 [(0, mm_rf E 2), (1, .int x1)] [] w f ca sa := by
  refine mm_iconst (v := 0) h d_TS_has_16 (by decide) ?_
  exact k0
theorem s_TS_has_17 {E : mm_E} {Γ : mm_G} {lev kc ks ca sa : Nat} {w : mm_W} {f : mm_F} {Post : Option Value → mm_W → mm_F → Prop} (h : mm_ok E Γ b_TS_has 2 "PlannedTables$Tables" lev kc ks) (he : mm_end E Γ (some .boolean) kc ks Post y_TS_has.name) (hca : ca ≤ kc) (hsa : sa ≤ ks) (hw : mm_sh w) {x1 : Int32} {xk0 : Int32} (k0 : Post (some (.int xk0)) w f) (n1 : narrow .boolean (.int xk0) = .int xk0) : mm_go E Γ 2 17 [(0, mm_rf E 2), (1, .int x1)] [.int xk0] w f ca sa := by
  exact mm_iret h he n1 d_TS_has_17 hca hsa k0
theorem d_TS_make_0 : decode b_TS_make 0 = .ok (.aload_n 0, 1) := by decide +kernel
theorem d_TS_make_1 : decode b_TS_make 1 = .ok (.getfield 18, 3) := by decide +kernel
theorem d_TS_make_4 : decode b_TS_make 4 = .ok (.istore_n 2, 1) := by decide +kernel
theorem d_TS_make_5 : decode b_TS_make 5 = .ok (.aload_n 0, 1) := by decide +kernel
theorem d_TS_make_6 : decode b_TS_make 6 = .ok (.getfield 11, 3) := by decide +kernel
theorem d_TS_make_9 : decode b_TS_make 9 = .ok (.iload_n 2, 1) := by decide +kernel
theorem d_TS_make_10 : decode b_TS_make 10 = .ok (.aaload, 1) := by decide +kernel
theorem d_TS_make_11 : decode b_TS_make 11 = .ok (.iload_n 1, 1) := by decide +kernel
theorem d_TS_make_12 : decode b_TS_make 12 = .ok (.putfield 22, 3) := by decide +kernel
theorem d_TS_make_15 : decode b_TS_make 15 = .ok (.aload_n 0, 1) := by decide +kernel
theorem d_TS_make_16 : decode b_TS_make 16 = .ok (.getfield 11, 3) := by decide +kernel
theorem d_TS_make_19 : decode b_TS_make 19 = .ok (.iload_n 2, 1) := by decide +kernel
theorem d_TS_make_20 : decode b_TS_make 20 = .ok (.aaload, 1) := by decide +kernel
theorem d_TS_make_21 : decode b_TS_make 21 = .ok (.getfield 25, 3) := by decide +kernel
theorem d_TS_make_24 : decode b_TS_make 24 = .ok (.iconst (0), 1) := by decide +kernel
theorem d_TS_make_25 : decode b_TS_make 25 = .ok (.iconst (1), 1) := by decide +kernel
theorem d_TS_make_26 : decode b_TS_make 26 = .ok (.bastore, 1) := by decide +kernel
theorem d_TS_make_27 : decode b_TS_make 27 = .ok (.aload_n 0, 1) := by decide +kernel
theorem d_TS_make_28 : decode b_TS_make 28 = .ok (.dup, 1) := by decide +kernel
theorem d_TS_make_29 : decode b_TS_make 29 = .ok (.getfield 18, 3) := by decide +kernel
theorem d_TS_make_32 : decode b_TS_make 32 = .ok (.iconst (1), 1) := by decide +kernel
theorem d_TS_make_33 : decode b_TS_make 33 = .ok (.iadd, 1) := by decide +kernel
theorem d_TS_make_34 : decode b_TS_make 34 = .ok (.putfield 18, 3) := by decide +kernel
theorem d_TS_make_37 : decode b_TS_make 37 = .ok (.iload_n 2, 1) := by decide +kernel
theorem d_TS_make_38 : decode b_TS_make 38 = .ok (.ireturn, 1) := by decide +kernel
theorem s_TS_make_0 {E : mm_E} {Γ : mm_G} {lev kc ks ca sa : Nat} {w : mm_W} {f : mm_F} {Post : Option Value → mm_W → mm_F → Prop} (h : mm_ok E Γ b_TS_make 3 "PlannedTables$Tables" lev kc ks) (he : mm_end E Γ (some .int) kc ks Post y_TS_make.name) (hca : ca ≤ kc) (hsa : sa ≤ ks) (hw : mm_sh w) {x1 : Int32} (b0 : vp_in (f 2 1) 4) (k1 : Post (some (.int (f 2 1))) w (mm_up (mm_up (mm_up f (4 + 12 * ((f 2 1)).toNatClampNeg) 0 x1) (5 + 12 * ((f 2 1)).toNatClampNeg) 0 1) 2 1 (((mm_up (mm_up f (4 + 12 * ((f 2 1)).toNatClampNeg) 0 x1) (5 + 12 * ((f 2 1)).toNatClampNeg) 0 1) 2 1) + 1))) : mm_go E Γ 3 0 [(0, mm_rf E 2), (1, .int x1)] [] w f ca sa := by
  refine mm_aload_n h d_TS_make_0 0 rfl rfl ?_
  refine mm_geti h fl_TS_18 rfl (is_TS hw) d_TS_make_1 ?_
  refine mm_istore_n (lv' := [(2, .int (f 2 1)), (0, mm_rf E 2), (1, .int x1)]) h d_TS_make_4 rfl (by decide) rfl ?_
  refine mm_aload_n h d_TS_make_5 1 rfl rfl ?_
  refine mm_getr h fl_TS_11 rfl (is_TS hw) (rf_TS_all hw) (is_TA hw).1.1 d_TS_make_6 ?_
  refine mm_iload_n h d_TS_make_9 0 rfl rfl ?_
  refine mm_aald h 4 rfl rfl rfl (fun _ => rfl) (is_TA hw) b0 (ra_TA hw (mm_in_lt b0)) (is_T hw (mm_in_lt b0)).1 d_TS_make_10 ?_
  refine mm_iload_n h d_TS_make_11 2 rfl rfl ?_
  refine mm_puti h fl_TS_22 (Or.inl rfl) rfl rfl rfl (is_T hw (mm_in_lt b0)) d_TS_make_12 ?_
  refine mm_aload_n h d_TS_make_15 1 rfl rfl ?_
  refine mm_getr h fl_TS_11 rfl (is_TS hw) (rf_TS_all hw) (is_TA hw).1.1 d_TS_make_16 ?_
  refine mm_iload_n h d_TS_make_19 0 rfl rfl ?_
  refine mm_aald h 4 rfl rfl rfl (fun _ => rfl) (is_TA hw) b0 (ra_TA hw (mm_in_lt b0)) (is_T hw (mm_in_lt b0)).1 d_TS_make_20 ?_
  refine mm_getr h fl_TS_25 rfl (is_T hw (mm_in_lt b0)) (rf_T_indexed hw (mm_in_lt b0)) (is_TI hw (mm_in_lt b0)).1.1 d_TS_make_21 ?_
  refine mm_iconst (v := 0) h d_TS_make_24 (by decide) ?_
  refine mm_iconst (v := 1) h d_TS_make_25 (by decide) ?_
  refine mm_zast h rfl (is_TI hw (mm_in_lt b0)) (by unfold vp_in; decide) d_TS_make_26 ?_
  refine mm_aload_n h d_TS_make_27 1 rfl rfl ?_
  refine mm_dup h d_TS_make_28 rfl ?_
  refine mm_geti h fl_TS_18 rfl (is_TS hw) d_TS_make_29 ?_
  refine mm_iconst (v := 1) h d_TS_make_32 (by decide) ?_
  refine mm_iadd h d_TS_make_33 ?_
  refine mm_puti h fl_TS_18 (Or.inl rfl) rfl rfl rfl (is_TS hw) d_TS_make_34 ?_
  refine mm_iload_n h d_TS_make_37 0 rfl rfl ?_
  exact mm_iret h he rfl d_TS_make_38 hca hsa k1
theorem d_TS_rowsInAll_0 : decode b_TS_rowsInAll 0 = .ok (.iconst (0), 1) := by decide +kernel
theorem d_TS_rowsInAll_1 : decode b_TS_rowsInAll 1 = .ok (.istore_n 1, 1) := by decide +kernel
theorem d_TS_rowsInAll_2 : decode b_TS_rowsInAll 2 = .ok (.iconst (0), 1) := by decide +kernel
theorem d_TS_rowsInAll_3 : decode b_TS_rowsInAll 3 = .ok (.istore_n 2, 1) := by decide +kernel
theorem d_TS_rowsInAll_4 : decode b_TS_rowsInAll 4 = .ok (.iload_n 2, 1) := by decide +kernel
theorem d_TS_rowsInAll_5 : decode b_TS_rowsInAll 5 = .ok (.aload_n 0, 1) := by decide +kernel
theorem d_TS_rowsInAll_6 : decode b_TS_rowsInAll 6 = .ok (.getfield 18, 3) := by decide +kernel
theorem d_TS_rowsInAll_9 : decode b_TS_rowsInAll 9 = .ok (.if_icmp .ge (21), 3) := by decide +kernel
theorem d_TS_rowsInAll_12 : decode b_TS_rowsInAll 12 = .ok (.iload_n 1, 1) := by decide +kernel
theorem d_TS_rowsInAll_13 : decode b_TS_rowsInAll 13 = .ok (.aload_n 0, 1) := by decide +kernel
theorem d_TS_rowsInAll_14 : decode b_TS_rowsInAll 14 = .ok (.getfield 11, 3) := by decide +kernel
theorem d_TS_rowsInAll_17 : decode b_TS_rowsInAll 17 = .ok (.iload_n 2, 1) := by decide +kernel
theorem d_TS_rowsInAll_18 : decode b_TS_rowsInAll 18 = .ok (.aaload, 1) := by decide +kernel
theorem d_TS_rowsInAll_19 : decode b_TS_rowsInAll 19 = .ok (.getfield 29, 3) := by decide +kernel
theorem d_TS_rowsInAll_22 : decode b_TS_rowsInAll 22 = .ok (.iadd, 1) := by decide +kernel
theorem d_TS_rowsInAll_23 : decode b_TS_rowsInAll 23 = .ok (.istore_n 1, 1) := by decide +kernel
theorem d_TS_rowsInAll_24 : decode b_TS_rowsInAll 24 = .ok (.iinc 2 (1), 3) := by decide +kernel
theorem d_TS_rowsInAll_27 : decode b_TS_rowsInAll 27 = .ok (.goto (-23), 3) := by decide +kernel
theorem d_TS_rowsInAll_30 : decode b_TS_rowsInAll 30 = .ok (.iload_n 1, 1) := by decide +kernel
theorem d_TS_rowsInAll_31 : decode b_TS_rowsInAll 31 = .ok (.ireturn, 1) := by decide +kernel
theorem s_TS_rowsInAll_0 {E : mm_E} {Γ : mm_G} {lev kc ks ca sa : Nat} {w : mm_W} {f : mm_F} (h : mm_ok E Γ b_TS_rowsInAll 3 "PlannedTables$Tables" lev kc ks) (hw : mm_sh w)  (k0 : mm_go E Γ 3 4 [(0, mm_rf E 2), (1, .int 0), (2, .int 0)] [] w f ca sa) : mm_go E Γ 3 0 [(0, mm_rf E 2)] [] w f ca sa := by
  refine mm_iconst (v := 0) h d_TS_rowsInAll_0 (by decide) ?_
  refine mm_istore_n (lv' := [(1, .int 0), (0, mm_rf E 2)]) h d_TS_rowsInAll_1 rfl (by decide) rfl ?_
  refine mm_iconst (v := 0) h d_TS_rowsInAll_2 (by decide) ?_
  refine mm_istore_n (lv' := [(2, .int 0), (1, .int 0), (0, mm_rf E 2)]) h d_TS_rowsInAll_3 rfl (by decide) rfl ?_
  refine mm_sub [2, 1, 0] rfl ?_
  exact k0
theorem s_TS_rowsInAll_4 {E : mm_E} {Γ : mm_G} {lev kc ks ca sa : Nat} {w : mm_W} {f : mm_F} {Post : Option Value → mm_W → mm_F → Prop} (h : mm_ok E Γ b_TS_rowsInAll 3 "PlannedTables$Tables" lev kc ks) (he : mm_end E Γ (some .int) kc ks Post y_TS_rowsInAll.name) (hca : ca ≤ kc) (hsa : sa ≤ ks) (hw : mm_sh w) {x1 : Int32} {x2 : Int32} (k0 : (f 2 1) ≤ x2 → Post (some (.int x1)) w f) (b1 : ¬ (f 2 1) ≤ x2 → vp_in x2 4) (k2 : ¬ (f 2 1) ≤ x2 → mm_go E Γ 3 4 [(0, mm_rf E 2), (1, .int (x1 + (f (4 + 12 * (x2).toNatClampNeg) 1))), (2, .int (x2 + 1))] [] w f ca sa) : mm_go E Γ 3 4 [(0, mm_rf E 2), (1, .int x1), (2, .int x2)] [] w f ca sa := by
  refine mm_iload_n h d_TS_rowsInAll_4 2 rfl rfl ?_
  refine mm_aload_n h d_TS_rowsInAll_5 0 rfl rfl ?_
  refine mm_geti h fl_TS_18 rfl (is_TS hw) d_TS_rowsInAll_6 ?_
  refine mm_icmp_ge h d_TS_rowsInAll_9 (tgt := 30) (by decide) (fun c1 => ?_) (fun c1 => ?_)
  · skip
    refine mm_iload_n h d_TS_rowsInAll_30 1 rfl rfl ?_
    exact mm_iret h he rfl d_TS_rowsInAll_31 hca hsa (k0 c1)
  · skip
    refine mm_iload_n h d_TS_rowsInAll_12 1 rfl rfl ?_
    refine mm_aload_n h d_TS_rowsInAll_13 0 rfl rfl ?_
    refine mm_getr h fl_TS_11 rfl (is_TS hw) (rf_TS_all hw) (is_TA hw).1.1 d_TS_rowsInAll_14 ?_
    refine mm_iload_n h d_TS_rowsInAll_17 2 rfl rfl ?_
    refine mm_aald h 4 rfl rfl rfl (fun _ => rfl) (is_TA hw) (b1 c1) (ra_TA hw (mm_in_lt (b1 c1))) (is_T hw (mm_in_lt (b1 c1))).1 d_TS_rowsInAll_18 ?_
    refine mm_geti h fl_TS_29 rfl (is_T hw (mm_in_lt (b1 c1))) d_TS_rowsInAll_19 ?_
    refine mm_iadd h d_TS_rowsInAll_22 ?_
    refine mm_istore_n (lv' := [(1, .int (x1 + (f (4 + 12 * (x2).toNatClampNeg) 1))), (0, mm_rf E 2), (2, .int x2)]) h d_TS_rowsInAll_23 rfl (by decide) rfl ?_
    refine mm_iinc (lv' := [(2, .int (x2 + 1)), (1, .int (x1 + (f (4 + 12 * (x2).toNatClampNeg) 1))), (0, mm_rf E 2)]) h d_TS_rowsInAll_24 2 rfl (congrArg (fun z => x2 + z) lit1) (by decide) rfl ?_
    refine mm_goto h d_TS_rowsInAll_27 (tgt := 4) (by decide) ?_
    refine mm_sub [2, 1, 0] rfl ?_
    exact (k2 c1)
