/-! Segments. -/
theorem d_RN_askForAll_0 : decode b_RN_askForAll 0 = .ok (.iconst (0), 1) := by decide +kernel
theorem d_RN_askForAll_1 : decode b_RN_askForAll 1 = .ok (.istore_n 1, 1) := by decide +kernel
theorem d_RN_askForAll_2 : decode b_RN_askForAll 2 = .ok (.iload_n 1, 1) := by decide +kernel
theorem d_RN_askForAll_3 : decode b_RN_askForAll 3 = .ok (.aload_n 0, 1) := by decide +kernel
theorem d_RN_askForAll_4 : decode b_RN_askForAll 4 = .ok (.getfield 19, 3) := by decide +kernel
theorem d_RN_askForAll_7 : decode b_RN_askForAll 7 = .ok (.getfield 31, 3) := by decide +kernel
theorem d_RN_askForAll_10 : decode b_RN_askForAll 10 = .ok (.if_icmp .ge (22), 3) := by decide +kernel
theorem d_RN_askForAll_13 : decode b_RN_askForAll 13 = .ok (.aload_n 0, 1) := by decide +kernel
theorem d_RN_askForAll_14 : decode b_RN_askForAll 14 = .ok (.aload_n 0, 1) := by decide +kernel
theorem d_RN_askForAll_15 : decode b_RN_askForAll 15 = .ok (.getfield 19, 3) := by decide +kernel
theorem d_RN_askForAll_18 : decode b_RN_askForAll 18 = .ok (.getfield 36, 3) := by decide +kernel
theorem d_RN_askForAll_21 : decode b_RN_askForAll 21 = .ok (.iload_n 1, 1) := by decide +kernel
theorem d_RN_askForAll_22 : decode b_RN_askForAll 22 = .ok (.aaload, 1) := by decide +kernel
theorem d_RN_askForAll_23 : decode b_RN_askForAll 23 = .ok (.invokevirtual 40, 3) := by decide +kernel
theorem d_RN_askForAll_26 : decode b_RN_askForAll 26 = .ok (.iinc 1 (1), 3) := by decide +kernel
theorem d_RN_askForAll_29 : decode b_RN_askForAll 29 = .ok (.goto (-27), 3) := by decide +kernel
theorem d_RN_askForAll_32 : decode b_RN_askForAll 32 = .ok (.aload_n 0, 1) := by decide +kernel
theorem d_RN_askForAll_33 : decode b_RN_askForAll 33 = .ok (.getfield 19, 3) := by decide +kernel
theorem d_RN_askForAll_36 : decode b_RN_askForAll 36 = .ok (.getfield 31, 3) := by decide +kernel
theorem d_RN_askForAll_39 : decode b_RN_askForAll 39 = .ok (.iconst (1), 1) := by decide +kernel
theorem d_RN_askForAll_40 : decode b_RN_askForAll 40 = .ok (.isub, 1) := by decide +kernel
theorem d_RN_askForAll_41 : decode b_RN_askForAll 41 = .ok (.istore_n 1, 1) := by decide +kernel
theorem d_RN_askForAll_42 : decode b_RN_askForAll 42 = .ok (.iload_n 1, 1) := by decide +kernel
theorem d_RN_askForAll_43 : decode b_RN_askForAll 43 = .ok (.istore_n 2, 1) := by decide +kernel
theorem d_RN_askForAll_44 : decode b_RN_askForAll 44 = .ok (.iconst (0), 1) := by decide +kernel
theorem d_RN_askForAll_45 : decode b_RN_askForAll 45 = .ok (.istore_n 3, 1) := by decide +kernel
theorem d_RN_askForAll_46 : decode b_RN_askForAll 46 = .ok (.aload_n 0, 1) := by decide +kernel
theorem d_RN_askForAll_47 : decode b_RN_askForAll 47 = .ok (.getfield 27, 3) := by decide +kernel
theorem d_RN_askForAll_50 : decode b_RN_askForAll 50 = .ok (.i2l, 1) := by decide +kernel
theorem d_RN_askForAll_51 : decode b_RN_askForAll 51 = .ok (.ldc2_w 44, 3) := by decide +kernel
theorem d_RN_askForAll_54 : decode b_RN_askForAll 54 = .ok (.ladd, 1) := by decide +kernel
theorem d_RN_askForAll_55 : decode b_RN_askForAll 55 = .ok (.ldc2_w 46, 3) := by decide +kernel
theorem d_RN_askForAll_58 : decode b_RN_askForAll 58 = .ok (.lmul, 1) := by decide +kernel
theorem d_RN_askForAll_59 : decode b_RN_askForAll 59 = .ok (.ldc2_w 48, 3) := by decide +kernel
theorem d_RN_askForAll_62 : decode b_RN_askForAll 62 = .ok (.lmul, 1) := by decide +kernel
theorem d_RN_askForAll_63 : decode b_RN_askForAll 63 = .ok (.lstore 4, 2) := by decide +kernel
theorem d_RN_askForAll_65 : decode b_RN_askForAll 65 = .ok (.lconst 0, 1) := by decide +kernel
theorem d_RN_askForAll_66 : decode b_RN_askForAll 66 = .ok (.lstore 6, 2) := by decide +kernel
theorem d_RN_askForAll_68 : decode b_RN_askForAll 68 = .ok (.lload 6, 2) := by decide +kernel
theorem d_RN_askForAll_70 : decode b_RN_askForAll 70 = .ok (.lload 4, 2) := by decide +kernel
theorem d_RN_askForAll_72 : decode b_RN_askForAll 72 = .ok (.lcmp, 1) := by decide +kernel
theorem d_RN_askForAll_73 : decode b_RN_askForAll 73 = .ok (.ifCond .ge (105), 3) := by decide +kernel
theorem d_RN_askForAll_76 : decode b_RN_askForAll 76 = .ok (.iload_n 2, 1) := by decide +kernel
theorem d_RN_askForAll_77 : decode b_RN_askForAll 77 = .ok (.ifCond .lt (101), 3) := by decide +kernel
theorem d_RN_askForAll_80 : decode b_RN_askForAll 80 = .ok (.aload_n 0, 1) := by decide +kernel
theorem d_RN_askForAll_81 : decode b_RN_askForAll 81 = .ok (.aload_n 0, 1) := by decide +kernel
theorem d_RN_askForAll_82 : decode b_RN_askForAll 82 = .ok (.getfield 19, 3) := by decide +kernel
theorem d_RN_askForAll_85 : decode b_RN_askForAll 85 = .ok (.getfield 36, 3) := by decide +kernel
theorem d_RN_askForAll_88 : decode b_RN_askForAll 88 = .ok (.iload_n 2, 1) := by decide +kernel
theorem d_RN_askForAll_89 : decode b_RN_askForAll 89 = .ok (.aaload, 1) := by decide +kernel
theorem d_RN_askForAll_90 : decode b_RN_askForAll 90 = .ok (.iload_n 3, 1) := by decide +kernel
theorem d_RN_askForAll_91 : decode b_RN_askForAll 91 = .ok (.invokevirtual 50, 3) := by decide +kernel
theorem d_RN_askForAll_94 : decode b_RN_askForAll 94 = .ok (.istore 8, 2) := by decide +kernel
theorem d_RN_askForAll_96 : decode b_RN_askForAll 96 = .ok (.iload 8, 2) := by decide +kernel
theorem d_RN_askForAll_98 : decode b_RN_askForAll 98 = .ok (.iconst (3), 1) := by decide +kernel
theorem d_RN_askForAll_99 : decode b_RN_askForAll 99 = .ok (.if_icmp .ne (5), 3) := by decide +kernel
theorem d_RN_askForAll_102 : decode b_RN_askForAll 102 = .ok (.iconst (3), 1) := by decide +kernel
theorem d_RN_askForAll_103 : decode b_RN_askForAll 103 = .ok (.ireturn, 1) := by decide +kernel
theorem d_RN_askForAll_104 : decode b_RN_askForAll 104 = .ok (.iload 8, 2) := by decide +kernel
theorem d_RN_askForAll_106 : decode b_RN_askForAll 106 = .ok (.ifCond .eq (8), 3) := by decide +kernel
theorem d_RN_askForAll_109 : decode b_RN_askForAll 109 = .ok (.iload_n 2, 1) := by decide +kernel
theorem d_RN_askForAll_110 : decode b_RN_askForAll 110 = .ok (.iload_n 1, 1) := by decide +kernel
theorem d_RN_askForAll_111 : decode b_RN_askForAll 111 = .ok (.if_icmp .ge (22), 3) := by decide +kernel
theorem d_RN_askForAll_114 : decode b_RN_askForAll 114 = .ok (.iload_n 2, 1) := by decide +kernel
theorem d_RN_askForAll_115 : decode b_RN_askForAll 115 = .ok (.iload 8, 2) := by decide +kernel
theorem d_RN_askForAll_117 : decode b_RN_askForAll 117 = .ok (.ifCond .ne (7), 3) := by decide +kernel
theorem d_RN_askForAll_120 : decode b_RN_askForAll 120 = .ok (.iconst (-1), 1) := by decide +kernel
theorem d_RN_askForAll_121 : decode b_RN_askForAll 121 = .ok (.goto (4), 3) := by decide +kernel
theorem d_RN_askForAll_124 : decode b_RN_askForAll 124 = .ok (.iconst (1), 1) := by decide +kernel
theorem d_RN_askForAll_125 : decode b_RN_askForAll 125 = .ok (.iadd, 1) := by decide +kernel
theorem d_RN_askForAll_126 : decode b_RN_askForAll 126 = .ok (.istore_n 2, 1) := by decide +kernel
theorem d_RN_askForAll_127 : decode b_RN_askForAll 127 = .ok (.iload 8, 2) := by decide +kernel
theorem d_RN_askForAll_129 : decode b_RN_askForAll 129 = .ok (.istore_n 3, 1) := by decide +kernel
theorem d_RN_askForAll_130 : decode b_RN_askForAll 130 = .ok (.goto (39), 3) := by decide +kernel
theorem d_RN_askForAll_133 : decode b_RN_askForAll 133 = .ok (.iload 8, 2) := by decide +kernel
theorem d_RN_askForAll_135 : decode b_RN_askForAll 135 = .ok (.iconst (2), 1) := by decide +kernel
theorem d_RN_askForAll_136 : decode b_RN_askForAll 136 = .ok (.if_icmp .ne (5), 3) := by decide +kernel
theorem d_RN_askForAll_139 : decode b_RN_askForAll 139 = .ok (.iconst (2), 1) := by decide +kernel
theorem d_RN_askForAll_140 : decode b_RN_askForAll 140 = .ok (.ireturn, 1) := by decide +kernel
theorem d_RN_askForAll_141 : decode b_RN_askForAll 141 = .ok (.aload_n 0, 1) := by decide +kernel
theorem d_RN_askForAll_142 : decode b_RN_askForAll 142 = .ok (.getfield 23, 3) := by decide +kernel
theorem d_RN_askForAll_145 : decode b_RN_askForAll 145 = .ok (.aload_n 0, 1) := by decide +kernel
theorem d_RN_askForAll_146 : decode b_RN_askForAll 146 = .ok (.getfield 9, 3) := by decide +kernel
theorem d_RN_askForAll_149 : decode b_RN_askForAll 149 = .ok (.aload_n 0, 1) := by decide +kernel
theorem d_RN_askForAll_150 : decode b_RN_askForAll 150 = .ok (.getfield 19, 3) := by decide +kernel
theorem d_RN_askForAll_153 : decode b_RN_askForAll 153 = .ok (.getfield 54, 3) := by decide +kernel
theorem d_RN_askForAll_156 : decode b_RN_askForAll 156 = .ok (.invokevirtual 57, 3) := by decide +kernel
theorem d_RN_askForAll_159 : decode b_RN_askForAll 159 = .ok (.ifCond .eq (8), 3) := by decide +kernel
theorem d_RN_askForAll_162 : decode b_RN_askForAll 162 = .ok (.iconst (0), 1) := by decide +kernel
theorem d_RN_askForAll_163 : decode b_RN_askForAll 163 = .ok (.istore_n 3, 1) := by decide +kernel
theorem d_RN_askForAll_164 : decode b_RN_askForAll 164 = .ok (.goto (5), 3) := by decide +kernel
theorem d_RN_askForAll_167 : decode b_RN_askForAll 167 = .ok (.iconst (4), 1) := by decide +kernel
theorem d_RN_askForAll_168 : decode b_RN_askForAll 168 = .ok (.ireturn, 1) := by decide +kernel
theorem d_RN_askForAll_169 : decode b_RN_askForAll 169 = .ok (.lload 6, 2) := by decide +kernel
theorem d_RN_askForAll_171 : decode b_RN_askForAll 171 = .ok (.lconst 1, 1) := by decide +kernel
theorem d_RN_askForAll_172 : decode b_RN_askForAll 172 = .ok (.ladd, 1) := by decide +kernel
theorem d_RN_askForAll_173 : decode b_RN_askForAll 173 = .ok (.lstore 6, 2) := by decide +kernel
theorem d_RN_askForAll_175 : decode b_RN_askForAll 175 = .ok (.goto (-107), 3) := by decide +kernel
theorem d_RN_askForAll_178 : decode b_RN_askForAll 178 = .ok (.iconst (3), 1) := by decide +kernel
theorem d_RN_askForAll_179 : decode b_RN_askForAll 179 = .ok (.ireturn, 1) := by decide +kernel
theorem s_RN_askForAll_0 {E : mm_E} {Γ : mm_G} {lev kc ks ca sa : Nat} {w : mm_W} {f : mm_F} (h : mm_ok E Γ b_RN_askForAll 9 "PlannedTables$Run" lev kc ks) (hw : mm_sh w) {n0 : Nat} (hn0 : mm_run w n0) (k0 : mm_go E Γ 9 2 [(0, mm_rf E n0), (1, .int 0)] [] w f ca sa) : mm_go E Γ 9 0 [(0, mm_rf E n0)] [] w f ca sa := by
  refine mm_iconst (v := 0) h d_RN_askForAll_0 (by decide) ?_
  refine mm_istore_n (lv' := [(1, .int 0), (0, mm_rf E n0)]) h d_RN_askForAll_1 rfl (by decide) rfl ?_
  refine mm_sub [1, 0] rfl ?_
  exact k0
theorem s_RN_askForAll_2 {E : mm_E} {Γ : mm_G} {lev kc ks ca sa : Nat} {w : mm_W} {f : mm_F} (h : mm_ok E Γ b_RN_askForAll 9 "PlannedTables$Run" lev kc ks) (hw : mm_sh w) {n0 : Nat} (hn0 : mm_run w n0) {x1 : Int32} (k0 : (f 53 4) ≤ x1 → mm_go E Γ 9 68 [(0, mm_rf E n0), (1, .int ((f 53 4) - 1)), (2, .int ((f 53 4) - 1)), (3, .int 0), (4, .long (((((f n0 3)).toInt64 + 4) * 2) * 39)), (6, .long 0)] [] w f ca sa) (b1 : ¬ (f 53 4) ≤ x1 → vp_in x1 39) {vl0 vc0 vs0 : Nat} {P0 : Option Value → mm_W → mm_F → Prop} (hl0 : vl0 < lev) (hu0 : ca + vc0 ≤ kc) (hz0 : sa + vs0 ≤ ks) (m2 : ¬ (f 53 4) ≤ x1 → mm_C E y_RN_begin b_RN_begin 2 none vl0 vc0 vs0 [mm_rf E n0, mm_rf E (56 + 2 * (x1).toNatClampNeg)] w f P0) (k3 : ¬ (f 53 4) ≤ x1 → ∀ (r : Option Value) (w1 : mm_W) (f1 : mm_F), P0 r w1 f1 → mm_go E Γ 9 26 [(0, mm_rf E n0), (1, .int x1)] (r.toList ++ []) w1 f1 (ca + vc0) (sa + vs0)) : mm_go E Γ 9 2 [(0, mm_rf E n0), (1, .int x1)] [] w f ca sa := by
  refine mm_iload_n h d_RN_askForAll_2 1 rfl rfl ?_
  refine mm_aload_n h d_RN_askForAll_3 0 rfl rfl ?_
  refine mm_getr h fl_RN_19 rfl hn0.2.1 hn0.2.2.2.1 (is_PL hw).1 d_RN_askForAll_4 ?_
  refine mm_geti h fl_RN_31 rfl (is_PL hw) d_RN_askForAll_7 ?_
  refine mm_icmp_ge h d_RN_askForAll_10 (tgt := 32) (by decide) (fun c1 => ?_) (fun c1 => ?_)
  · skip
    refine mm_aload_n h d_RN_askForAll_32 0 rfl rfl ?_
    refine mm_getr h fl_RN_19 rfl hn0.2.1 hn0.2.2.2.1 (is_PL hw).1 d_RN_askForAll_33 ?_
    refine mm_geti h fl_RN_31 rfl (is_PL hw) d_RN_askForAll_36 ?_
    refine mm_iconst (v := 1) h d_RN_askForAll_39 (by decide) ?_
    refine mm_isub h d_RN_askForAll_40 ?_
    refine mm_istore_n (lv' := [(1, .int ((f 53 4) - 1)), (0, mm_rf E n0)]) h d_RN_askForAll_41 rfl (by decide) rfl ?_
    refine mm_iload_n h d_RN_askForAll_42 0 rfl rfl ?_
    refine mm_istore_n (lv' := [(2, .int ((f 53 4) - 1)), (1, .int ((f 53 4) - 1)), (0, mm_rf E n0)]) h d_RN_askForAll_43 rfl (by decide) rfl ?_
    refine mm_iconst (v := 0) h d_RN_askForAll_44 (by decide) ?_
    refine mm_istore_n (lv' := [(3, .int 0), (2, .int ((f 53 4) - 1)), (1, .int ((f 53 4) - 1)), (0, mm_rf E n0)]) h d_RN_askForAll_45 rfl (by decide) rfl ?_
    refine mm_aload_n h d_RN_askForAll_46 3 rfl rfl ?_
    refine mm_geti h fl_RN_27 rfl hn0.2.1 d_RN_askForAll_47 ?_
    refine mm_i2l h d_RN_askForAll_50 rfl ?_
    refine mm_ldc2 (v := 4) h nw_561 d_RN_askForAll_51 ?_
    refine mm_ladd h d_RN_askForAll_54 ?_
    refine mm_ldc2 (v := 2) h nw_562 d_RN_askForAll_55 ?_
    refine mm_lmul h d_RN_askForAll_58 ?_
    refine mm_ldc2 (v := 39) h nw_563 d_RN_askForAll_59 ?_
    refine mm_lmul h d_RN_askForAll_62 ?_
    refine mm_lstore (lv' := [(4, .long (((((f n0 3)).toInt64 + 4) * 2) * 39)), (3, .int 0), (2, .int ((f 53 4) - 1)), (1, .int ((f 53 4) - 1)), (0, mm_rf E n0)]) h d_RN_askForAll_63 (by decide) rfl ?_
    refine mm_lconst (v := 0) h d_RN_askForAll_65 (by decide) ?_
    refine mm_lstore (lv' := [(6, .long 0), (4, .long (((((f n0 3)).toInt64 + 4) * 2) * 39)), (3, .int 0), (2, .int ((f 53 4) - 1)), (1, .int ((f 53 4) - 1)), (0, mm_rf E n0)]) h d_RN_askForAll_66 (by decide) rfl ?_
    refine mm_sub [5, 4, 3, 2, 1, 0] rfl ?_
    exact (k0 c1)
  · skip
    refine mm_aload_n h d_RN_askForAll_13 0 rfl rfl ?_
    refine mm_aload_n h d_RN_askForAll_14 0 rfl rfl ?_
    refine mm_getr h fl_RN_19 rfl hn0.2.1 hn0.2.2.2.1 (is_PL hw).1 d_RN_askForAll_15 ?_
    refine mm_getr h fl_RN_36 rfl (is_PL hw) (rf_PL_steps hw) (is_SA hw).1.1 d_RN_askForAll_18 ?_
    refine mm_iload_n h d_RN_askForAll_21 1 rfl rfl ?_
    refine mm_aald h 5 rfl rfl rfl (fun _ => rfl) (is_SA hw) (b1 c1) (ra_SA hw (mm_in_lt (b1 c1))) (is_S hw (mm_in_lt (b1 c1))).1 d_RN_askForAll_22 ?_
    exact mm_callV (As := [mm_rf E (56 + 2 * (x1).toNatClampNeg)]) (rest := []) h (m2 c1) cv_RN_40 cm_RN_begin hl0 (q0 := _) rfl rfl hn0.2.1 hu0 hz0 rfl rfl (Nat.le_of_ble_eq_true rfl) d_RN_askForAll_23 (fun r w1 f1 hp => (k3 c1) r w1 f1 hp)
theorem s_RN_askForAll_26 {E : mm_E} {Γ : mm_G} {lev kc ks ca sa : Nat} {w : mm_W} {f : mm_F} (h : mm_ok E Γ b_RN_askForAll 9 "PlannedTables$Run" lev kc ks) (hw : mm_sh w) {n0 : Nat} (hn0 : mm_run w n0) {x1 : Int32} (k0 : mm_go E Γ 9 2 [(0, mm_rf E n0), (1, .int (x1 + 1))] [] w f ca sa) : mm_go E Γ 9 26 [(0, mm_rf E n0), (1, .int x1)] [] w f ca sa := by
  refine mm_iinc (lv' := [(1, .int (x1 + 1)), (0, mm_rf E n0)]) h d_RN_askForAll_26 1 rfl (congrArg (fun z => x1 + z) lit1) (by decide) rfl ?_
  refine mm_goto h d_RN_askForAll_29 (tgt := 2) (by decide) ?_
  refine mm_sub [1, 0] rfl ?_
  exact k0
theorem s_RN_askForAll_68 {E : mm_E} {Γ : mm_G} {lev kc ks ca sa : Nat} {w : mm_W} {f : mm_F} (h : mm_ok E Γ b_RN_askForAll 9 "PlannedTables$Run" lev kc ks) (hw : mm_sh w) {n0 : Nat} (hn0 : mm_run w n0) {x1 : Int32} {x2 : Int32} {x3 : Int32} {z4 : Int64} {z6 : Int64} (k0 : 0 ≤ (lg_cmp z6 z4) → mm_go E Γ 9 178 [(0, mm_rf E n0), (1, .int x1), (2, .int x2), (3, .int x3), (4, .long z4), (6, .long z6)] [] w f ca sa) (k1 : ¬ 0 ≤ (lg_cmp z6 z4) → x2 < 0 → mm_go E Γ 9 178 [(0, mm_rf E n0), (1, .int x1), (2, .int x2), (3, .int x3), (4, .long z4), (6, .long z6)] [] w f ca sa) (b2 : ¬ 0 ≤ (lg_cmp z6 z4) → ¬ x2 < 0 → vp_in x2 39) {vl0 vc0 vs0 : Nat} {P0 : Option Value → mm_W → mm_F → Prop} (hl0 : vl0 < lev) (hu0 : ca + vc0 ≤ kc) (hz0 : sa + vs0 ≤ ks) (m3 : ¬ 0 ≤ (lg_cmp z6 z4) → ¬ x2 < 0 → mm_C E y_RN_react b_RN_react 3 (some .int) vl0 vc0 vs0 [mm_rf E n0, mm_rf E (56 + 2 * (x2).toNatClampNeg), .int x3] w f P0) (k4 : ¬ 0 ≤ (lg_cmp z6 z4) → ¬ x2 < 0 → ∀ (r : Option Value) (w1 : mm_W) (f1 : mm_F), P0 r w1 f1 → mm_go E Γ 9 94 [(0, mm_rf E n0), (1, .int x1), (2, .int x2), (3, .int x3), (4, .long z4), (6, .long z6)] (r.toList ++ []) w1 f1 (ca + vc0) (sa + vs0)) : mm_go E Γ 9 68 [(0, mm_rf E n0), (1, .int x1), (2, .int x2), (3, .int x3), (4, .long z4), (6, .long z6)] [] w f ca sa := by
  refine mm_lload h d_RN_askForAll_68 5 rfl ?_
  refine mm_lload h d_RN_askForAll_70 4 rfl ?_
  refine mm_lcmp h d_RN_askForAll_72 ?_
  refine mm_if_ge h d_RN_askForAll_73 (tgt := 178) (by decide) (fun c1 => ?_) (fun c1 => ?_)
  · skip
    exact (k0 c1)
  · skip
    refine mm_iload_n h d_RN_askForAll_76 2 rfl rfl ?_
    refine mm_if_lt h d_RN_askForAll_77 (tgt := 178) (by decide) (fun c2 => ?_) (fun c2 => ?_)
    · skip
      exact (k1 c1 c2)
    · skip
      refine mm_aload_n h d_RN_askForAll_80 0 rfl rfl ?_
      refine mm_aload_n h d_RN_askForAll_81 0 rfl rfl ?_
      refine mm_getr h fl_RN_19 rfl hn0.2.1 hn0.2.2.2.1 (is_PL hw).1 d_RN_askForAll_82 ?_
      refine mm_getr h fl_RN_36 rfl (is_PL hw) (rf_PL_steps hw) (is_SA hw).1.1 d_RN_askForAll_85 ?_
      refine mm_iload_n h d_RN_askForAll_88 2 rfl rfl ?_
      refine mm_aald h 5 rfl rfl rfl (fun _ => rfl) (is_SA hw) (b2 c1 c2) (ra_SA hw (mm_in_lt (b2 c1 c2))) (is_S hw (mm_in_lt (b2 c1 c2))).1 d_RN_askForAll_89 ?_
      refine mm_iload_n h d_RN_askForAll_90 3 rfl rfl ?_
      exact mm_callV (As := [mm_rf E (56 + 2 * (x2).toNatClampNeg), .int x3]) (rest := []) h (m3 c1 c2) cv_RN_50 cm_RN_react hl0 (q0 := _) rfl rfl hn0.2.1 hu0 hz0 rfl rfl (Nat.le_of_ble_eq_true rfl) d_RN_askForAll_91 (fun r w1 f1 hp => (k4 c1 c2) r w1 f1 hp)
theorem s_RN_askForAll_94 {E : mm_E} {Γ : mm_G} {lev kc ks ca sa : Nat} {w : mm_W} {f : mm_F} {Post : Option Value → mm_W → mm_F → Prop} (h : mm_ok E Γ b_RN_askForAll 9 "PlannedTables$Run" lev kc ks) (he : mm_end E Γ (some .int) kc ks Post y_RN_askForAll.name) (hca : ca ≤ kc) (hsa : sa ≤ ks) (hw : mm_sh w) {n0 : Nat} (hn0 : mm_run w n0) {x1 : Int32} {x2 : Int32} {x3 : Int32} {z4 : Int64} {z6 : Int64} {xk0 : Int32} (k0 : ¬ xk0 = 3 → xk0 = 0 → mm_go E Γ 9 114 [(0, mm_rf E n0), (1, .int x1), (2, .int x2), (3, .int x3), (4, .long z4), (6, .long z6), (8, .int xk0)] [] w f ca sa) {vl0 vc0 vs0 : Nat} {P0 : Option Value → mm_W → mm_F → Prop} (hl0 : vl0 < lev) (hu0 : ca + vc0 ≤ kc) (hz0 : sa + vs0 ≤ ks) (m1 : ¬ xk0 = 3 → ¬ xk0 = 0 → x1 ≤ x2 → ¬ xk0 = 2 → mm_C E y_OP_add b_OP_add 4 (some .boolean) vl0 vc0 vs0 [mm_rf E 134, mm_rf E (n0 + 1), .int (f 53 3)] w f P0) (k2 : ¬ xk0 = 3 → ¬ xk0 = 0 → x1 ≤ x2 → ¬ xk0 = 2 → ∀ (r : Option Value) (w1 : mm_W) (f1 : mm_F), P0 r w1 f1 → mm_go E Γ 9 159 [(0, mm_rf E n0), (1, .int x1), (2, .int x2), (3, .int x3), (4, .long z4), (6, .long z6), (8, .int xk0)] (r.toList ++ []) w1 f1 (ca + vc0) (sa + vs0)) (k3 : ¬ xk0 = 3 → ¬ xk0 = 0 → x1 ≤ x2 → xk0 = 2 → Post (some (.int 2)) w f) (k4 : ¬ xk0 = 3 → ¬ xk0 = 0 → ¬ x1 ≤ x2 → mm_go E Γ 9 114 [(0, mm_rf E n0), (1, .int x1), (2, .int x2), (3, .int x3), (4, .long z4), (6, .long z6), (8, .int xk0)] [] w f ca sa) (k5 : xk0 = 3 → Post (some (.int 3)) w f) : mm_go E Γ 9 94 [(0, mm_rf E n0), (1, .int x1), (2, .int x2), (3, .int x3), (4, .long z4), (6, .long z6)] [.int xk0] w f ca sa := by
  refine mm_istore (lv' := [(8, .int xk0), (0, mm_rf E n0), (1, .int x1), (2, .int x2), (3, .int x3), (4, .long z4), (6, .long z6)]) h d_RN_askForAll_94 (by decide) rfl ?_
  refine mm_iload h d_RN_askForAll_96 0 rfl ?_
  refine mm_iconst (v := 3) h d_RN_askForAll_98 (by decide) ?_
  refine mm_icmp_ne h d_RN_askForAll_99 (tgt := 104) (by decide) (fun c1 => ?_) (fun c1 => ?_)
  · skip
    refine mm_iload h d_RN_askForAll_104 0 rfl ?_
    refine mm_if_eq h d_RN_askForAll_106 (tgt := 114) (by decide) (fun c2 => ?_) (fun c2 => ?_)
    · skip
      refine mm_sub [1, 2, 3, 4, 5, 6, 0] rfl ?_
      exact (k0 c1 c2)
    · skip
      refine mm_iload_n h d_RN_askForAll_109 3 rfl rfl ?_
      refine mm_iload_n h d_RN_askForAll_110 2 rfl rfl ?_
      refine mm_icmp_ge h d_RN_askForAll_111 (tgt := 133) (by decide) (fun c3 => ?_) (fun c3 => ?_)
      · skip
        refine mm_iload h d_RN_askForAll_133 0 rfl ?_
        refine mm_iconst (v := 2) h d_RN_askForAll_135 (by decide) ?_
        refine mm_icmp_ne h d_RN_askForAll_136 (tgt := 141) (by decide) (fun c4 => ?_) (fun c4 => ?_)
        · skip
          refine mm_aload_n h d_RN_askForAll_141 1 rfl rfl ?_
          refine mm_getr h fl_RN_23 rfl hn0.2.1 hn0.2.2.2.2.1 (is_OU hw).1 d_RN_askForAll_142 ?_
          refine mm_aload_n h d_RN_askForAll_145 1 rfl rfl ?_
          refine mm_getr h fl_RN_9 rfl hn0.2.1 hn0.2.2.2.2.2.1 hn0.2.2.2.2.2.2.1.1 d_RN_askForAll_146 ?_
          refine mm_aload_n h d_RN_askForAll_149 1 rfl rfl ?_
          refine mm_getr h fl_RN_19 rfl hn0.2.1 hn0.2.2.2.1 (is_PL hw).1 d_RN_askForAll_150 ?_
          refine mm_geti h fl_RN_54 rfl (is_PL hw) d_RN_askForAll_153 ?_
          exact mm_callV (As := [mm_rf E (n0 + 1), .int (f 53 3)]) (rest := []) h (m1 c1 c2 c3 c4) cv_RN_57 cm_OP_add hl0 (q0 := _) rfl rfl (is_OU hw) hu0 hz0 rfl rfl (Nat.le_of_ble_eq_true rfl) d_RN_askForAll_156 (fun r w1 f1 hp => mm_sub [1, 2, 3, 4, 5, 6, 0] rfl ((k2 c1 c2 c3 c4) r w1 f1 hp))
        · skip
          refine mm_iconst (v := 2) h d_RN_askForAll_139 (by decide) ?_
          exact mm_iret h he rfl d_RN_askForAll_140 hca hsa (k3 c1 c2 c3 c4)
      · skip
        refine mm_sub [1, 2, 3, 4, 5, 6, 0] rfl ?_
        exact (k4 c1 c2 c3)
  · skip
    refine mm_iconst (v := 3) h d_RN_askForAll_102 (by decide) ?_
    exact mm_iret h he rfl d_RN_askForAll_103 hca hsa (k5 c1)
theorem s_RN_askForAll_114 {E : mm_E} {Γ : mm_G} {lev kc ks ca sa : Nat} {w : mm_W} {f : mm_F} (h : mm_ok E Γ b_RN_askForAll 9 "PlannedTables$Run" lev kc ks) (hw : mm_sh w) {n0 : Nat} (hn0 : mm_run w n0) {x1 : Int32} {x2 : Int32} {x3 : Int32} {z4 : Int64} {z6 : Int64} {x8 : Int32} (k0 : ¬ x8 = 0 → mm_go E Γ 9 125 [(0, mm_rf E n0), (1, .int x1), (2, .int x2), (3, .int x3), (4, .long z4), (6, .long z6), (8, .int x8)] [.int 1, .int x2] w f ca sa) (k1 : x8 = 0 → mm_go E Γ 9 125 [(0, mm_rf E n0), (1, .int x1), (2, .int x2), (3, .int x3), (4, .long z4), (6, .long z6), (8, .int x8)] [.int (-1), .int x2] w f ca sa) : mm_go E Γ 9 114 [(0, mm_rf E n0), (1, .int x1), (2, .int x2), (3, .int x3), (4, .long z4), (6, .long z6), (8, .int x8)] [] w f ca sa := by
  refine mm_iload_n h d_RN_askForAll_114 2 rfl rfl ?_
  refine mm_iload h d_RN_askForAll_115 6 rfl ?_
  refine mm_if_ne h d_RN_askForAll_117 (tgt := 124) (by decide) (fun c1 => ?_) (fun c1 => ?_)
  · skip
    refine mm_iconst (v := 1) h d_RN_askForAll_124 (by decide) ?_
    exact (k0 c1)
  · skip
    refine mm_iconst (v := (-1)) h d_RN_askForAll_120 (by decide) ?_
    refine mm_goto h d_RN_askForAll_121 (tgt := 125) (by decide) ?_
    exact (k1 c1)
theorem s_RN_askForAll_125 {E : mm_E} {Γ : mm_G} {lev kc ks ca sa : Nat} {w : mm_W} {f : mm_F} (h : mm_ok E Γ b_RN_askForAll 9 "PlannedTables$Run" lev kc ks) (hw : mm_sh w) {n0 : Nat} (hn0 : mm_run w n0) {x1 : Int32} {x2 : Int32} {x3 : Int32} {z4 : Int64} {z6 : Int64} {x8 : Int32} {xk0 : Int32} {xk1 : Int32} (k0 : mm_go E Γ 9 169 [(0, mm_rf E n0), (1, .int x1), (2, .int (xk0 + xk1)), (3, .int x8), (4, .long z4), (6, .long z6), (8, .int x8)] [] w f ca sa) : mm_go E Γ 9 125 [(0, mm_rf E n0), (1, .int x1), (2, .int x2), (3, .int x3), (4, .long z4), (6, .long z6), (8, .int x8)] [.int xk1, .int xk0] w f ca sa := by
  refine mm_iadd h d_RN_askForAll_125 ?_
  refine mm_istore_n (lv' := [(2, .int (xk0 + xk1)), (0, mm_rf E n0), (1, .int x1), (3, .int x3), (4, .long z4), (6, .long z6), (8, .int x8)]) h d_RN_askForAll_126 rfl (by decide) rfl ?_
  refine mm_iload h d_RN_askForAll_127 6 rfl ?_
  refine mm_istore_n (lv' := [(3, .int x8), (2, .int (xk0 + xk1)), (0, mm_rf E n0), (1, .int x1), (4, .long z4), (6, .long z6), (8, .int x8)]) h d_RN_askForAll_129 rfl (by decide) rfl ?_
  refine mm_goto h d_RN_askForAll_130 (tgt := 169) (by decide) ?_
  refine mm_sub [2, 3, 1, 0, 4, 5, 6] rfl ?_
  exact k0
theorem s_RN_askForAll_159 {E : mm_E} {Γ : mm_G} {lev kc ks ca sa : Nat} {w : mm_W} {f : mm_F} {Post : Option Value → mm_W → mm_F → Prop} (h : mm_ok E Γ b_RN_askForAll 9 "PlannedTables$Run" lev kc ks) (he : mm_end E Γ (some .int) kc ks Post y_RN_askForAll.name) (hca : ca ≤ kc) (hsa : sa ≤ ks) (hw : mm_sh w) {n0 : Nat} (hn0 : mm_run w n0) {x1 : Int32} {x2 : Int32} {x3 : Int32} {z4 : Int64} {z6 : Int64} {x8 : Int32} {xk0 : Int32} (k0 : xk0 = 0 → Post (some (.int 4)) w f) (k1 : ¬ xk0 = 0 → mm_go E Γ 9 169 [(0, mm_rf E n0), (1, .int x1), (2, .int x2), (3, .int 0), (4, .long z4), (6, .long z6), (8, .int x8)] [] w f ca sa) : mm_go E Γ 9 159 [(0, mm_rf E n0), (1, .int x1), (2, .int x2), (3, .int x3), (4, .long z4), (6, .long z6), (8, .int x8)] [.int xk0] w f ca sa := by
  refine mm_if_eq h d_RN_askForAll_159 (tgt := 167) (by decide) (fun c1 => ?_) (fun c1 => ?_)
  · skip
    refine mm_iconst (v := 4) h d_RN_askForAll_167 (by decide) ?_
    exact mm_iret h he rfl d_RN_askForAll_168 hca hsa (k0 c1)
  · skip
    refine mm_iconst (v := 0) h d_RN_askForAll_162 (by decide) ?_
    refine mm_istore_n (lv' := [(3, .int 0), (0, mm_rf E n0), (1, .int x1), (2, .int x2), (4, .long z4), (6, .long z6), (8, .int x8)]) h d_RN_askForAll_163 rfl (by decide) rfl ?_
    refine mm_goto h d_RN_askForAll_164 (tgt := 169) (by decide) ?_
    refine mm_sub [1, 2, 3, 0, 4, 5, 6] rfl ?_
    exact (k1 c1)
theorem s_RN_askForAll_169 {E : mm_E} {Γ : mm_G} {lev kc ks ca sa : Nat} {w : mm_W} {f : mm_F} (h : mm_ok E Γ b_RN_askForAll 9 "PlannedTables$Run" lev kc ks) (hw : mm_sh w) {n0 : Nat} (hn0 : mm_run w n0) {x1 : Int32} {x2 : Int32} {x3 : Int32} {z4 : Int64} {z6 : Int64} {x8 : Int32} (k0 : mm_go E Γ 9 68 [(0, mm_rf E n0), (1, .int x1), (2, .int x2), (3, .int x3), (4, .long z4), (6, .long (z6 + 1))] [] w f ca sa) : mm_go E Γ 9 169 [(0, mm_rf E n0), (1, .int x1), (2, .int x2), (3, .int x3), (4, .long z4), (6, .long z6), (8, .int x8)] [] w f ca sa := by
  refine mm_lload h d_RN_askForAll_169 5 rfl ?_
  refine mm_lconst (v := 1) h d_RN_askForAll_171 (by decide) ?_
  refine mm_ladd h d_RN_askForAll_172 ?_
  refine mm_lstore (lv' := [(6, .long (z6 + 1)), (0, mm_rf E n0), (1, .int x1), (2, .int x2), (3, .int x3), (4, .long z4), (8, .int x8)]) h d_RN_askForAll_173 (by decide) rfl ?_
  refine mm_goto h d_RN_askForAll_175 (tgt := 68) (by decide) ?_
  refine mm_sub [1, 2, 3, 4, 5, 0] rfl ?_
  exact k0
theorem s_RN_askForAll_178 {E : mm_E} {Γ : mm_G} {lev kc ks ca sa : Nat} {w : mm_W} {f : mm_F} {Post : Option Value → mm_W → mm_F → Prop} (h : mm_ok E Γ b_RN_askForAll 9 "PlannedTables$Run" lev kc ks) (he : mm_end E Γ (some .int) kc ks Post y_RN_askForAll.name) (hca : ca ≤ kc) (hsa : sa ≤ ks) (hw : mm_sh w) {n0 : Nat} (hn0 : mm_run w n0) {x1 : Int32} {x2 : Int32} {x3 : Int32} {z4 : Int64} {z6 : Int64} (k0 : Post (some (.int 3)) w f) : mm_go E Γ 9 178 [(0, mm_rf E n0), (1, .int x1), (2, .int x2), (3, .int x3), (4, .long z4), (6, .long z6)] [] w f ca sa := by
  refine mm_iconst (v := 3) h d_RN_askForAll_178 (by decide) ?_
  exact mm_iret h he rfl d_RN_askForAll_179 hca hsa k0
theorem d_RN_begin_0 : decode b_RN_begin 0 = .ok (.aload_n 1, 1) := by decide +kernel
theorem d_RN_begin_1 : decode b_RN_begin 1 = .ok (.iconst (0), 1) := by decide +kernel
theorem d_RN_begin_2 : decode b_RN_begin 2 = .ok (.putfield 63, 3) := by decide +kernel
theorem d_RN_begin_5 : decode b_RN_begin 5 = .ok (.aload_n 1, 1) := by decide +kernel
theorem d_RN_begin_6 : decode b_RN_begin 6 = .ok (.iconst (0), 1) := by decide +kernel
theorem d_RN_begin_7 : decode b_RN_begin 7 = .ok (.putfield 68, 3) := by decide +kernel
theorem d_RN_begin_10 : decode b_RN_begin 10 = .ok (.aload_n 1, 1) := by decide +kernel
theorem d_RN_begin_11 : decode b_RN_begin 11 = .ok (.getfield 72, 3) := by decide +kernel
theorem d_RN_begin_14 : decode b_RN_begin 14 = .ok (.tableswitch (164) (1) (7) #[(42), (69), (164), (164), (109), (151), (151)], 42) := by decide +kernel
theorem d_RN_begin_56 : decode b_RN_begin 56 = .ok (.aload_n 1, 1) := by decide +kernel
theorem d_RN_begin_57 : decode b_RN_begin 57 = .ok (.aload_n 0, 1) := by decide +kernel
theorem d_RN_begin_58 : decode b_RN_begin 58 = .ok (.aload_n 1, 1) := by decide +kernel
theorem d_RN_begin_59 : decode b_RN_begin 59 = .ok (.iconst (1), 1) := by decide +kernel
theorem d_RN_begin_60 : decode b_RN_begin 60 = .ok (.invokevirtual 75, 3) := by decide +kernel
theorem d_RN_begin_63 : decode b_RN_begin 63 = .ok (.putfield 78, 3) := by decide +kernel
theorem d_RN_begin_66 : decode b_RN_begin 66 = .ok (.aload_n 1, 1) := by decide +kernel
theorem d_RN_begin_67 : decode b_RN_begin 67 = .ok (.iconst (0), 1) := by decide +kernel
theorem d_RN_begin_68 : decode b_RN_begin 68 = .ok (.putfield 81, 3) := by decide +kernel
theorem d_RN_begin_71 : decode b_RN_begin 71 = .ok (.aload_n 0, 1) := by decide +kernel
theorem d_RN_begin_72 : decode b_RN_begin 72 = .ok (.aload_n 1, 1) := by decide +kernel
theorem d_RN_begin_73 : decode b_RN_begin 73 = .ok (.ldc 84, 2) := by decide +kernel
theorem d_RN_begin_75 : decode b_RN_begin 75 = .ok (.ldc 85, 2) := by decide +kernel
theorem d_RN_begin_77 : decode b_RN_begin 77 = .ok (.invokevirtual 86, 3) := by decide +kernel
theorem d_RN_begin_80 : decode b_RN_begin 80 = .ok (.goto (98), 3) := by decide +kernel
theorem d_RN_begin_83 : decode b_RN_begin 83 = .ok (.aload_n 1, 1) := by decide +kernel
theorem d_RN_begin_84 : decode b_RN_begin 84 = .ok (.aload_n 0, 1) := by decide +kernel
theorem d_RN_begin_85 : decode b_RN_begin 85 = .ok (.aload_n 1, 1) := by decide +kernel
theorem d_RN_begin_86 : decode b_RN_begin 86 = .ok (.iconst (1), 1) := by decide +kernel
theorem d_RN_begin_87 : decode b_RN_begin 87 = .ok (.invokevirtual 75, 3) := by decide +kernel
theorem d_RN_begin_90 : decode b_RN_begin 90 = .ok (.putfield 78, 3) := by decide +kernel
theorem d_RN_begin_93 : decode b_RN_begin 93 = .ok (.aload_n 1, 1) := by decide +kernel
theorem d_RN_begin_94 : decode b_RN_begin 94 = .ok (.aload_n 0, 1) := by decide +kernel
theorem d_RN_begin_95 : decode b_RN_begin 95 = .ok (.aload_n 1, 1) := by decide +kernel
theorem d_RN_begin_96 : decode b_RN_begin 96 = .ok (.iconst (2), 1) := by decide +kernel
theorem d_RN_begin_97 : decode b_RN_begin 97 = .ok (.invokevirtual 75, 3) := by decide +kernel
theorem d_RN_begin_100 : decode b_RN_begin 100 = .ok (.putfield 81, 3) := by decide +kernel
theorem d_RN_begin_103 : decode b_RN_begin 103 = .ok (.aload_n 0, 1) := by decide +kernel
theorem d_RN_begin_104 : decode b_RN_begin 104 = .ok (.aload_n 1, 1) := by decide +kernel
theorem d_RN_begin_105 : decode b_RN_begin 105 = .ok (.aload_n 0, 1) := by decide +kernel
theorem d_RN_begin_106 : decode b_RN_begin 106 = .ok (.aload_n 1, 1) := by decide +kernel
theorem d_RN_begin_107 : decode b_RN_begin 107 = .ok (.iconst (3), 1) := by decide +kernel
theorem d_RN_begin_108 : decode b_RN_begin 108 = .ok (.invokevirtual 75, 3) := by decide +kernel
theorem d_RN_begin_111 : decode b_RN_begin 111 = .ok (.aload_n 0, 1) := by decide +kernel
theorem d_RN_begin_112 : decode b_RN_begin 112 = .ok (.aload_n 1, 1) := by decide +kernel
theorem d_RN_begin_113 : decode b_RN_begin 113 = .ok (.iconst (4), 1) := by decide +kernel
theorem d_RN_begin_114 : decode b_RN_begin 114 = .ok (.invokevirtual 75, 3) := by decide +kernel
theorem d_RN_begin_117 : decode b_RN_begin 117 = .ok (.invokevirtual 86, 3) := by decide +kernel
theorem d_RN_begin_120 : decode b_RN_begin 120 = .ok (.goto (58), 3) := by decide +kernel
theorem d_RN_begin_123 : decode b_RN_begin 123 = .ok (.aload_n 1, 1) := by decide +kernel
theorem d_RN_begin_124 : decode b_RN_begin 124 = .ok (.aload_n 0, 1) := by decide +kernel
theorem d_RN_begin_125 : decode b_RN_begin 125 = .ok (.aload_n 1, 1) := by decide +kernel
theorem d_RN_begin_126 : decode b_RN_begin 126 = .ok (.iconst (1), 1) := by decide +kernel
theorem d_RN_begin_127 : decode b_RN_begin 127 = .ok (.invokevirtual 75, 3) := by decide +kernel
theorem d_RN_begin_130 : decode b_RN_begin 130 = .ok (.putfield 78, 3) := by decide +kernel
theorem d_RN_begin_133 : decode b_RN_begin 133 = .ok (.aload_n 1, 1) := by decide +kernel
theorem d_RN_begin_134 : decode b_RN_begin 134 = .ok (.aload_n 0, 1) := by decide +kernel
theorem d_RN_begin_135 : decode b_RN_begin 135 = .ok (.aload_n 1, 1) := by decide +kernel
theorem d_RN_begin_136 : decode b_RN_begin 136 = .ok (.iconst (2), 1) := by decide +kernel
theorem d_RN_begin_137 : decode b_RN_begin 137 = .ok (.invokevirtual 75, 3) := by decide +kernel
theorem d_RN_begin_140 : decode b_RN_begin 140 = .ok (.putfield 81, 3) := by decide +kernel
theorem d_RN_begin_143 : decode b_RN_begin 143 = .ok (.aload_n 1, 1) := by decide +kernel
theorem d_RN_begin_144 : decode b_RN_begin 144 = .ok (.aload_n 0, 1) := by decide +kernel
theorem d_RN_begin_145 : decode b_RN_begin 145 = .ok (.getfield 15, 3) := by decide +kernel
theorem d_RN_begin_148 : decode b_RN_begin 148 = .ok (.getfield 90, 3) := by decide +kernel
theorem d_RN_begin_151 : decode b_RN_begin 151 = .ok (.aload_n 1, 1) := by decide +kernel
theorem d_RN_begin_152 : decode b_RN_begin 152 = .ok (.getfield 78, 3) := by decide +kernel
theorem d_RN_begin_155 : decode b_RN_begin 155 = .ok (.aaload, 1) := by decide +kernel
theorem d_RN_begin_156 : decode b_RN_begin 156 = .ok (.getfield 96, 3) := by decide +kernel
theorem d_RN_begin_159 : decode b_RN_begin 159 = .ok (.putfield 99, 3) := by decide +kernel
theorem d_RN_begin_162 : decode b_RN_begin 162 = .ok (.goto (16), 3) := by decide +kernel
theorem d_RN_begin_165 : decode b_RN_begin 165 = .ok (.aload_n 1, 1) := by decide +kernel
theorem d_RN_begin_166 : decode b_RN_begin 166 = .ok (.aload_n 0, 1) := by decide +kernel
theorem d_RN_begin_167 : decode b_RN_begin 167 = .ok (.aload_n 1, 1) := by decide +kernel
theorem d_RN_begin_168 : decode b_RN_begin 168 = .ok (.iconst (1), 1) := by decide +kernel
theorem d_RN_begin_169 : decode b_RN_begin 169 = .ok (.invokevirtual 75, 3) := by decide +kernel
theorem d_RN_begin_172 : decode b_RN_begin 172 = .ok (.putfield 63, 3) := by decide +kernel
theorem d_RN_begin_175 : decode b_RN_begin 175 = .ok (.goto (3), 3) := by decide +kernel
theorem d_RN_begin_178 : decode b_RN_begin 178 = .ok (.return_, 1) := by decide +kernel
theorem s_RN_begin_0 {E : mm_E} {Γ : mm_G} {lev kc ks ca sa : Nat} {w : mm_W} {f : mm_F} (h : mm_ok E Γ b_RN_begin 2 "PlannedTables$Run" lev kc ks) (hw : mm_sh w) {n0 : Nat} (hn0 : mm_run w n0) {s1 : Nat} (hs1 : s1 < 39) (k0 : ((mm_up (mm_up f (56 + 2 * s1) 7 0) (56 + 2 * s1) 8 0) (56 + 2 * s1) 0) = 1 → mm_go E Γ 2 56 [(0, mm_rf E n0), (1, mm_rf E (56 + 2 * s1))] [] w (mm_up (mm_up f (56 + 2 * s1) 7 0) (56 + 2 * s1) 8 0) ca sa) (k1 : ¬ ((mm_up (mm_up f (56 + 2 * s1) 7 0) (56 + 2 * s1) 8 0) (56 + 2 * s1) 0) = 1 → ((mm_up (mm_up f (56 + 2 * s1) 7 0) (56 + 2 * s1) 8 0) (56 + 2 * s1) 0) = 2 → mm_go E Γ 2 83 [(0, mm_rf E n0), (1, mm_rf E (56 + 2 * s1))] [] w (mm_up (mm_up f (56 + 2 * s1) 7 0) (56 + 2 * s1) 8 0) ca sa) (k2 : ¬ ((mm_up (mm_up f (56 + 2 * s1) 7 0) (56 + 2 * s1) 8 0) (56 + 2 * s1) 0) = 1 → ¬ ((mm_up (mm_up f (56 + 2 * s1) 7 0) (56 + 2 * s1) 8 0) (56 + 2 * s1) 0) = 2 → ((mm_up (mm_up f (56 + 2 * s1) 7 0) (56 + 2 * s1) 8 0) (56 + 2 * s1) 0) = 3 → mm_go E Γ 2 178 [(0, mm_rf E n0), (1, mm_rf E (56 + 2 * s1))] [] w (mm_up (mm_up f (56 + 2 * s1) 7 0) (56 + 2 * s1) 8 0) ca sa) (k3 : ¬ ((mm_up (mm_up f (56 + 2 * s1) 7 0) (56 + 2 * s1) 8 0) (56 + 2 * s1) 0) = 1 → ¬ ((mm_up (mm_up f (56 + 2 * s1) 7 0) (56 + 2 * s1) 8 0) (56 + 2 * s1) 0) = 2 → ¬ ((mm_up (mm_up f (56 + 2 * s1) 7 0) (56 + 2 * s1) 8 0) (56 + 2 * s1) 0) = 3 → ((mm_up (mm_up f (56 + 2 * s1) 7 0) (56 + 2 * s1) 8 0) (56 + 2 * s1) 0) = 4 → mm_go E Γ 2 178 [(0, mm_rf E n0), (1, mm_rf E (56 + 2 * s1))] [] w (mm_up (mm_up f (56 + 2 * s1) 7 0) (56 + 2 * s1) 8 0) ca sa) (k4 : ¬ ((mm_up (mm_up f (56 + 2 * s1) 7 0) (56 + 2 * s1) 8 0) (56 + 2 * s1) 0) = 1 → ¬ ((mm_up (mm_up f (56 + 2 * s1) 7 0) (56 + 2 * s1) 8 0) (56 + 2 * s1) 0) = 2 → ¬ ((mm_up (mm_up f (56 + 2 * s1) 7 0) (56 + 2 * s1) 8 0) (56 + 2 * s1) 0) = 3 → ¬ ((mm_up (mm_up f (56 + 2 * s1) 7 0) (56 + 2 * s1) 8 0) (56 + 2 * s1) 0) = 4 → ((mm_up (mm_up f (56 + 2 * s1) 7 0) (56 + 2 * s1) 8 0) (56 + 2 * s1) 0) = 5 → mm_go E Γ 2 123 [(0, mm_rf E n0), (1, mm_rf E (56 + 2 * s1))] [] w (mm_up (mm_up f (56 + 2 * s1) 7 0) (56 + 2 * s1) 8 0) ca sa) (k5 : ¬ ((mm_up (mm_up f (56 + 2 * s1) 7 0) (56 + 2 * s1) 8 0) (56 + 2 * s1) 0) = 1 → ¬ ((mm_up (mm_up f (56 + 2 * s1) 7 0) (56 + 2 * s1) 8 0) (56 + 2 * s1) 0) = 2 → ¬ ((mm_up (mm_up f (56 + 2 * s1) 7 0) (56 + 2 * s1) 8 0) (56 + 2 * s1) 0) = 3 → ¬ ((mm_up (mm_up f (56 + 2 * s1) 7 0) (56 + 2 * s1) 8 0) (56 + 2 * s1) 0) = 4 → ¬ ((mm_up (mm_up f (56 + 2 * s1) 7 0) (56 + 2 * s1) 8 0) (56 + 2 * s1) 0) = 5 → ((mm_up (mm_up f (56 + 2 * s1) 7 0) (56 + 2 * s1) 8 0) (56 + 2 * s1) 0) = 6 → mm_go E Γ 2 165 [(0, mm_rf E n0), (1, mm_rf E (56 + 2 * s1))] [] w (mm_up (mm_up f (56 + 2 * s1) 7 0) (56 + 2 * s1) 8 0) ca sa) (k6 : ¬ ((mm_up (mm_up f (56 + 2 * s1) 7 0) (56 + 2 * s1) 8 0) (56 + 2 * s1) 0) = 1 → ¬ ((mm_up (mm_up f (56 + 2 * s1) 7 0) (56 + 2 * s1) 8 0) (56 + 2 * s1) 0) = 2 → ¬ ((mm_up (mm_up f (56 + 2 * s1) 7 0) (56 + 2 * s1) 8 0) (56 + 2 * s1) 0) = 3 → ¬ ((mm_up (mm_up f (56 + 2 * s1) 7 0) (56 + 2 * s1) 8 0) (56 + 2 * s1) 0) = 4 → ¬ ((mm_up (mm_up f (56 + 2 * s1) 7 0) (56 + 2 * s1) 8 0) (56 + 2 * s1) 0) = 5 → ¬ ((mm_up (mm_up f (56 + 2 * s1) 7 0) (56 + 2 * s1) 8 0) (56 + 2 * s1) 0) = 6 → ((mm_up (mm_up f (56 + 2 * s1) 7 0) (56 + 2 * s1) 8 0) (56 + 2 * s1) 0) = 7 → mm_go E Γ 2 165 [(0, mm_rf E n0), (1, mm_rf E (56 + 2 * s1))] [] w (mm_up (mm_up f (56 + 2 * s1) 7 0) (56 + 2 * s1) 8 0) ca sa) (k7 : ¬ ((mm_up (mm_up f (56 + 2 * s1) 7 0) (56 + 2 * s1) 8 0) (56 + 2 * s1) 0) = 1 → ¬ ((mm_up (mm_up f (56 + 2 * s1) 7 0) (56 + 2 * s1) 8 0) (56 + 2 * s1) 0) = 2 → ¬ ((mm_up (mm_up f (56 + 2 * s1) 7 0) (56 + 2 * s1) 8 0) (56 + 2 * s1) 0) = 3 → ¬ ((mm_up (mm_up f (56 + 2 * s1) 7 0) (56 + 2 * s1) 8 0) (56 + 2 * s1) 0) = 4 → ¬ ((mm_up (mm_up f (56 + 2 * s1) 7 0) (56 + 2 * s1) 8 0) (56 + 2 * s1) 0) = 5 → ¬ ((mm_up (mm_up f (56 + 2 * s1) 7 0) (56 + 2 * s1) 8 0) (56 + 2 * s1) 0) = 6 → ¬ ((mm_up (mm_up f (56 + 2 * s1) 7 0) (56 + 2 * s1) 8 0) (56 + 2 * s1) 0) = 7 → mm_go E Γ 2 178 [(0, mm_rf E n0), (1, mm_rf E (56 + 2 * s1))] [] w (mm_up (mm_up f (56 + 2 * s1) 7 0) (56 + 2 * s1) 8 0) ca sa) : mm_go E Γ 2 0 [(0, mm_rf E n0), (1, mm_rf E (56 + 2 * s1))] [] w f ca sa := by
  refine mm_aload_n h d_RN_begin_0 1 rfl rfl ?_
  refine mm_iconst (v := 0) h d_RN_begin_1 (by decide) ?_
  refine mm_puti h fl_RN_63 (Or.inl rfl) rfl rfl rfl (is_S hw hs1) d_RN_begin_2 ?_
  refine mm_aload_n h d_RN_begin_5 1 rfl rfl ?_
  refine mm_iconst (v := 0) h d_RN_begin_6 (by decide) ?_
  refine mm_puti h fl_RN_68 (Or.inl rfl) rfl rfl rfl (is_S hw hs1) d_RN_begin_7 ?_
  refine mm_aload_n h d_RN_begin_10 1 rfl rfl ?_
  refine mm_geti h fl_RN_72 rfl (is_S hw hs1) d_RN_begin_11 ?_
  by_cases c1 : ((mm_up (mm_up f (56 + 2 * s1) 7 0) (56 + 2 * s1) 8 0) (56 + 2 * s1) 0) = 1
  · refine mm_tin h d_RN_begin_14 (by rw [c1]; decide) (by rw [c1]; decide) (off := 42) (by rw [c1]; rfl) (tgt := 56) (by decide) ?_
    exact (k0 c1)
  by_cases c2 : ((mm_up (mm_up f (56 + 2 * s1) 7 0) (56 + 2 * s1) 8 0) (56 + 2 * s1) 0) = 2
  · refine mm_tin h d_RN_begin_14 (by rw [c2]; decide) (by rw [c2]; decide) (off := 69) (by rw [c2]; rfl) (tgt := 83) (by decide) ?_
    exact (k1 c1 c2)
  by_cases c3 : ((mm_up (mm_up f (56 + 2 * s1) 7 0) (56 + 2 * s1) 8 0) (56 + 2 * s1) 0) = 3
  · refine mm_tin h d_RN_begin_14 (by rw [c3]; decide) (by rw [c3]; decide) (off := 164) (by rw [c3]; rfl) (tgt := 178) (by decide) ?_
    exact (k2 c1 c2 c3)
  by_cases c4 : ((mm_up (mm_up f (56 + 2 * s1) 7 0) (56 + 2 * s1) 8 0) (56 + 2 * s1) 0) = 4
  · refine mm_tin h d_RN_begin_14 (by rw [c4]; decide) (by rw [c4]; decide) (off := 164) (by rw [c4]; rfl) (tgt := 178) (by decide) ?_
    exact (k3 c1 c2 c3 c4)
  by_cases c5 : ((mm_up (mm_up f (56 + 2 * s1) 7 0) (56 + 2 * s1) 8 0) (56 + 2 * s1) 0) = 5
  · refine mm_tin h d_RN_begin_14 (by rw [c5]; decide) (by rw [c5]; decide) (off := 109) (by rw [c5]; rfl) (tgt := 123) (by decide) ?_
    exact (k4 c1 c2 c3 c4 c5)
  by_cases c6 : ((mm_up (mm_up f (56 + 2 * s1) 7 0) (56 + 2 * s1) 8 0) (56 + 2 * s1) 0) = 6
  · refine mm_tin h d_RN_begin_14 (by rw [c6]; decide) (by rw [c6]; decide) (off := 151) (by rw [c6]; rfl) (tgt := 165) (by decide) ?_
    exact (k5 c1 c2 c3 c4 c5 c6)
  by_cases c7 : ((mm_up (mm_up f (56 + 2 * s1) 7 0) (56 + 2 * s1) 8 0) (56 + 2 * s1) 0) = 7
  · refine mm_tin h d_RN_begin_14 (by rw [c7]; decide) (by rw [c7]; decide) (off := 151) (by rw [c7]; rfl) (tgt := 165) (by decide) ?_
    exact (k6 c1 c2 c3 c4 c5 c6 c7)
  refine mm_tout h d_RN_begin_14 (by have q0 := mm_ne 1 1 (by decide) c1; have q1 := mm_ne 2 2 (by decide) c2; have q2 := mm_ne 3 3 (by decide) c3; have q3 := mm_ne 4 4 (by decide) c4; have q4 := mm_ne 5 5 (by decide) c5; have q5 := mm_ne 6 6 (by decide) c6; have q6 := mm_ne 7 7 (by decide) c7; omega) (tgt := 178) (by decide) ?_
  exact (k7 c1 c2 c3 c4 c5 c6 c7)
theorem s_RN_begin_56 {E : mm_E} {Γ : mm_G} {lev kc ks ca sa : Nat} {w : mm_W} {f : mm_F} (h : mm_ok E Γ b_RN_begin 2 "PlannedTables$Run" lev kc ks) (hw : mm_sh w) {n0 : Nat} (hn0 : mm_run w n0) {s1 : Nat} (hs1 : s1 < 39) {vl0 vc0 vs0 : Nat} {P0 : Option Value → mm_W → mm_F → Prop} (hl0 : vl0 < lev) (hu0 : ca + vc0 ≤ kc) (hz0 : sa + vs0 ≤ ks) (m0 : mm_C E y_RN_wordOf b_RN_wordOf 3 (some .int) vl0 vc0 vs0 [mm_rf E n0, mm_rf E (56 + 2 * s1), .int 1] w f P0) (k1 : ∀ (r : Option Value) (w1 : mm_W) (f1 : mm_F), P0 r w1 f1 → mm_go E Γ 2 63 [(0, mm_rf E n0), (1, mm_rf E (56 + 2 * s1))] (r.toList ++ [mm_rf E (56 + 2 * s1)]) w1 f1 (ca + vc0) (sa + vs0)) : mm_go E Γ 2 56 [(0, mm_rf E n0), (1, mm_rf E (56 + 2 * s1))] [] w f ca sa := by
  refine mm_aload_n h d_RN_begin_56 1 rfl rfl ?_
  refine mm_aload_n h d_RN_begin_57 0 rfl rfl ?_
  refine mm_aload_n h d_RN_begin_58 1 rfl rfl ?_
  refine mm_iconst (v := 1) h d_RN_begin_59 (by decide) ?_
  exact mm_callV (As := [mm_rf E (56 + 2 * s1), .int 1]) (rest := [mm_rf E (56 + 2 * s1)]) h m0 cv_RN_75 cm_RN_wordOf hl0 (q0 := _) rfl rfl hn0.2.1 hu0 hz0 rfl rfl (Nat.le_of_ble_eq_true rfl) d_RN_begin_60 (fun r w1 f1 hp => k1 r w1 f1 hp)
theorem s_RN_begin_63 {E : mm_E} {Γ : mm_G} {lev kc ks ca sa : Nat} {w : mm_W} {f : mm_F} (h : mm_ok E Γ b_RN_begin 2 "PlannedTables$Run" lev kc ks) (hw : mm_sh w) {n0 : Nat} (hn0 : mm_run w n0) {s1 : Nat} (hs1 : s1 < 39) {sk0 : Nat} (hsk0 : sk0 < 39) {xk1 : Int32} {vl0 vc0 vs0 : Nat} {P0 : Option Value → mm_W → mm_F → Prop} (hl0 : vl0 < lev) (hu0 : ca + vc0 ≤ kc) (hz0 : sa + vs0 ≤ ks) (m0 : mm_C E y_RN_beginWalk b_RN_beginWalk 4 none vl0 vc0 vs0 [mm_rf E n0, mm_rf E (56 + 2 * s1), .int (-2147483648), .int 2147483647] w (mm_up (mm_up f (56 + 2 * sk0) 3 xk1) (56 + 2 * s1) 4 0) P0) (k1 : ∀ (r : Option Value) (w1 : mm_W) (f1 : mm_F), P0 r w1 f1 → mm_go E Γ 2 80 [(0, mm_rf E n0), (1, mm_rf E (56 + 2 * s1))] (r.toList ++ []) w1 f1 (ca + vc0) (sa + vs0)) : mm_go E Γ 2 63 [(0, mm_rf E n0), (1, mm_rf E (56 + 2 * s1))] [.int xk1, mm_rf E (56 + 2 * sk0)] w f ca sa := by
  refine mm_puti h fl_RN_78 (Or.inl rfl) rfl rfl rfl (is_S hw hsk0) d_RN_begin_63 ?_
  refine mm_aload_n h d_RN_begin_66 1 rfl rfl ?_
  refine mm_iconst (v := 0) h d_RN_begin_67 (by decide) ?_
  refine mm_puti h fl_RN_81 (Or.inl rfl) rfl rfl rfl (is_S hw hs1) d_RN_begin_68 ?_
  refine mm_aload_n h d_RN_begin_71 0 rfl rfl ?_
  refine mm_aload_n h d_RN_begin_72 1 rfl rfl ?_
  refine mm_ldc (v := (-2147483648)) h nw_554 d_RN_begin_73 ?_
  refine mm_ldc (v := 2147483647) h nw_555 d_RN_begin_75 ?_
  exact mm_callV (As := [mm_rf E (56 + 2 * s1), .int (-2147483648), .int 2147483647]) (rest := []) h m0 cv_RN_86 cm_RN_beginWalk hl0 (q0 := _) rfl rfl hn0.2.1 hu0 hz0 rfl rfl (Nat.le_of_ble_eq_true rfl) d_RN_begin_77 (fun r w1 f1 hp => k1 r w1 f1 hp)
theorem s_RN_begin_80 {E : mm_E} {Γ : mm_G} {lev kc ks ca sa : Nat} {w : mm_W} {f : mm_F} (h : mm_ok E Γ b_RN_begin 2 "PlannedTables$Run" lev kc ks) (hw : mm_sh w) {n0 : Nat} (hn0 : mm_run w n0) {s1 : Nat} (hs1 : s1 < 39) (k0 : mm_go E Γ 2 178 [(0, mm_rf E n0), (1, mm_rf E (56 + 2 * s1))] [] w f ca sa) : mm_go E Γ 2 80 [(0, mm_rf E n0), (1, mm_rf E (56 + 2 * s1))] [] w f ca sa := by
  refine mm_goto h d_RN_begin_80 (tgt := 178) (by decide) ?_
  exact k0
theorem s_RN_begin_83 {E : mm_E} {Γ : mm_G} {lev kc ks ca sa : Nat} {w : mm_W} {f : mm_F} (h : mm_ok E Γ b_RN_begin 2 "PlannedTables$Run" lev kc ks) (hw : mm_sh w) {n0 : Nat} (hn0 : mm_run w n0) {s1 : Nat} (hs1 : s1 < 39) {vl0 vc0 vs0 : Nat} {P0 : Option Value → mm_W → mm_F → Prop} (hl0 : vl0 < lev) (hu0 : ca + vc0 ≤ kc) (hz0 : sa + vs0 ≤ ks) (m0 : mm_C E y_RN_wordOf b_RN_wordOf 3 (some .int) vl0 vc0 vs0 [mm_rf E n0, mm_rf E (56 + 2 * s1), .int 1] w f P0) (k1 : ∀ (r : Option Value) (w1 : mm_W) (f1 : mm_F), P0 r w1 f1 → mm_go E Γ 2 90 [(0, mm_rf E n0), (1, mm_rf E (56 + 2 * s1))] (r.toList ++ [mm_rf E (56 + 2 * s1)]) w1 f1 (ca + vc0) (sa + vs0)) : mm_go E Γ 2 83 [(0, mm_rf E n0), (1, mm_rf E (56 + 2 * s1))] [] w f ca sa := by
  refine mm_aload_n h d_RN_begin_83 1 rfl rfl ?_
  refine mm_aload_n h d_RN_begin_84 0 rfl rfl ?_
  refine mm_aload_n h d_RN_begin_85 1 rfl rfl ?_
  refine mm_iconst (v := 1) h d_RN_begin_86 (by decide) ?_
  exact mm_callV (As := [mm_rf E (56 + 2 * s1), .int 1]) (rest := [mm_rf E (56 + 2 * s1)]) h m0 cv_RN_75 cm_RN_wordOf hl0 (q0 := _) rfl rfl hn0.2.1 hu0 hz0 rfl rfl (Nat.le_of_ble_eq_true rfl) d_RN_begin_87 (fun r w1 f1 hp => k1 r w1 f1 hp)
theorem s_RN_begin_90 {E : mm_E} {Γ : mm_G} {lev kc ks ca sa : Nat} {w : mm_W} {f : mm_F} (h : mm_ok E Γ b_RN_begin 2 "PlannedTables$Run" lev kc ks) (hw : mm_sh w) {n0 : Nat} (hn0 : mm_run w n0) {s1 : Nat} (hs1 : s1 < 39) {sk0 : Nat} (hsk0 : sk0 < 39) {xk1 : Int32} {vl0 vc0 vs0 : Nat} {P0 : Option Value → mm_W → mm_F → Prop} (hl0 : vl0 < lev) (hu0 : ca + vc0 ≤ kc) (hz0 : sa + vs0 ≤ ks) (m0 : mm_C E y_RN_wordOf b_RN_wordOf 3 (some .int) vl0 vc0 vs0 [mm_rf E n0, mm_rf E (56 + 2 * s1), .int 2] w (mm_up f (56 + 2 * sk0) 3 xk1) P0) (k1 : ∀ (r : Option Value) (w1 : mm_W) (f1 : mm_F), P0 r w1 f1 → mm_go E Γ 2 100 [(0, mm_rf E n0), (1, mm_rf E (56 + 2 * s1))] (r.toList ++ [mm_rf E (56 + 2 * s1)]) w1 f1 (ca + vc0) (sa + vs0)) : mm_go E Γ 2 90 [(0, mm_rf E n0), (1, mm_rf E (56 + 2 * s1))] [.int xk1, mm_rf E (56 + 2 * sk0)] w f ca sa := by
  refine mm_puti h fl_RN_78 (Or.inl rfl) rfl rfl rfl (is_S hw hsk0) d_RN_begin_90 ?_
  refine mm_aload_n h d_RN_begin_93 1 rfl rfl ?_
  refine mm_aload_n h d_RN_begin_94 0 rfl rfl ?_
  refine mm_aload_n h d_RN_begin_95 1 rfl rfl ?_
  refine mm_iconst (v := 2) h d_RN_begin_96 (by decide) ?_
  exact mm_callV (As := [mm_rf E (56 + 2 * s1), .int 2]) (rest := [mm_rf E (56 + 2 * s1)]) h m0 cv_RN_75 cm_RN_wordOf hl0 (q0 := _) rfl rfl hn0.2.1 hu0 hz0 rfl rfl (Nat.le_of_ble_eq_true rfl) d_RN_begin_97 (fun r w1 f1 hp => k1 r w1 f1 hp)
theorem s_RN_begin_100 {E : mm_E} {Γ : mm_G} {lev kc ks ca sa : Nat} {w : mm_W} {f : mm_F} (h : mm_ok E Γ b_RN_begin 2 "PlannedTables$Run" lev kc ks) (hw : mm_sh w) {n0 : Nat} (hn0 : mm_run w n0) {s1 : Nat} (hs1 : s1 < 39) {sk0 : Nat} (hsk0 : sk0 < 39) {xk1 : Int32} {vl0 vc0 vs0 : Nat} {P0 : Option Value → mm_W → mm_F → Prop} (hl0 : vl0 < lev) (hu0 : ca + vc0 ≤ kc) (hz0 : sa + vs0 ≤ ks) (m0 : mm_C E y_RN_wordOf b_RN_wordOf 3 (some .int) vl0 vc0 vs0 [mm_rf E n0, mm_rf E (56 + 2 * s1), .int 3] w (mm_up f (56 + 2 * sk0) 4 xk1) P0) (k1 : ∀ (r : Option Value) (w1 : mm_W) (f1 : mm_F), P0 r w1 f1 → mm_go E Γ 2 111 [(0, mm_rf E n0), (1, mm_rf E (56 + 2 * s1))] (r.toList ++ [mm_rf E (56 + 2 * s1), mm_rf E n0]) w1 f1 (ca + vc0) (sa + vs0)) : mm_go E Γ 2 100 [(0, mm_rf E n0), (1, mm_rf E (56 + 2 * s1))] [.int xk1, mm_rf E (56 + 2 * sk0)] w f ca sa := by
  refine mm_puti h fl_RN_81 (Or.inl rfl) rfl rfl rfl (is_S hw hsk0) d_RN_begin_100 ?_
  refine mm_aload_n h d_RN_begin_103 0 rfl rfl ?_
  refine mm_aload_n h d_RN_begin_104 1 rfl rfl ?_
  refine mm_aload_n h d_RN_begin_105 0 rfl rfl ?_
  refine mm_aload_n h d_RN_begin_106 1 rfl rfl ?_
  refine mm_iconst (v := 3) h d_RN_begin_107 (by decide) ?_
  exact mm_callV (As := [mm_rf E (56 + 2 * s1), .int 3]) (rest := [mm_rf E (56 + 2 * s1), mm_rf E n0]) h m0 cv_RN_75 cm_RN_wordOf hl0 (q0 := _) rfl rfl hn0.2.1 hu0 hz0 rfl rfl (Nat.le_of_ble_eq_true rfl) d_RN_begin_108 (fun r w1 f1 hp => k1 r w1 f1 hp)
theorem s_RN_begin_111 {E : mm_E} {Γ : mm_G} {lev kc ks ca sa : Nat} {w : mm_W} {f : mm_F} (h : mm_ok E Γ b_RN_begin 2 "PlannedTables$Run" lev kc ks) (hw : mm_sh w) {n0 : Nat} (hn0 : mm_run w n0) {s1 : Nat} (hs1 : s1 < 39) {nk0 : Nat} (hnk0 : mm_run w nk0) {sk1 : Nat} (hsk1 : sk1 < 39) {xk2 : Int32} {vl0 vc0 vs0 : Nat} {P0 : Option Value → mm_W → mm_F → Prop} (hl0 : vl0 < lev) (hu0 : ca + vc0 ≤ kc) (hz0 : sa + vs0 ≤ ks) (m0 : mm_C E y_RN_wordOf b_RN_wordOf 3 (some .int) vl0 vc0 vs0 [mm_rf E n0, mm_rf E (56 + 2 * s1), .int 4] w f P0) (k1 : ∀ (r : Option Value) (w1 : mm_W) (f1 : mm_F), P0 r w1 f1 → mm_go E Γ 2 117 [(0, mm_rf E n0), (1, mm_rf E (56 + 2 * s1))] (r.toList ++ [.int xk2, mm_rf E (56 + 2 * sk1), mm_rf E nk0]) w1 f1 (ca + vc0) (sa + vs0)) : mm_go E Γ 2 111 [(0, mm_rf E n0), (1, mm_rf E (56 + 2 * s1))] [.int xk2, mm_rf E (56 + 2 * sk1), mm_rf E nk0] w f ca sa := by
  refine mm_aload_n h d_RN_begin_111 0 rfl rfl ?_
  refine mm_aload_n h d_RN_begin_112 1 rfl rfl ?_
  refine mm_iconst (v := 4) h d_RN_begin_113 (by decide) ?_
  exact mm_callV (As := [mm_rf E (56 + 2 * s1), .int 4]) (rest := [.int xk2, mm_rf E (56 + 2 * sk1), mm_rf E nk0]) h m0 cv_RN_75 cm_RN_wordOf hl0 (q0 := _) rfl rfl hn0.2.1 hu0 hz0 rfl rfl (Nat.le_of_ble_eq_true rfl) d_RN_begin_114 (fun r w1 f1 hp => k1 r w1 f1 hp)
theorem s_RN_begin_117 {E : mm_E} {Γ : mm_G} {lev kc ks ca sa : Nat} {w : mm_W} {f : mm_F} (h : mm_ok E Γ b_RN_begin 2 "PlannedTables$Run" lev kc ks) (hw : mm_sh w) {n0 : Nat} (hn0 : mm_run w n0) {s1 : Nat} (hs1 : s1 < 39) {nk0 : Nat} (hnk0 : mm_run w nk0) {sk1 : Nat} (hsk1 : sk1 < 39) {xk2 : Int32} {xk3 : Int32} {vl0 vc0 vs0 : Nat} {P0 : Option Value → mm_W → mm_F → Prop} (hl0 : vl0 < lev) (hu0 : ca + vc0 ≤ kc) (hz0 : sa + vs0 ≤ ks) (m0 : mm_C E y_RN_beginWalk b_RN_beginWalk 4 none vl0 vc0 vs0 [mm_rf E nk0, mm_rf E (56 + 2 * sk1), .int xk2, .int xk3] w f P0) (k1 : ∀ (r : Option Value) (w1 : mm_W) (f1 : mm_F), P0 r w1 f1 → mm_go E Γ 2 120 [(0, mm_rf E n0), (1, mm_rf E (56 + 2 * s1))] (r.toList ++ []) w1 f1 (ca + vc0) (sa + vs0)) : mm_go E Γ 2 117 [(0, mm_rf E n0), (1, mm_rf E (56 + 2 * s1))] [.int xk3, .int xk2, mm_rf E (56 + 2 * sk1), mm_rf E nk0] w f ca sa := by
  exact mm_callV (As := [mm_rf E (56 + 2 * sk1), .int xk2, .int xk3]) (rest := []) h m0 cv_RN_86 cm_RN_beginWalk hl0 (q0 := _) rfl rfl hnk0.2.1 hu0 hz0 rfl rfl (Nat.le_of_ble_eq_true rfl) d_RN_begin_117 (fun r w1 f1 hp => k1 r w1 f1 hp)
theorem s_RN_begin_120 {E : mm_E} {Γ : mm_G} {lev kc ks ca sa : Nat} {w : mm_W} {f : mm_F} (h : mm_ok E Γ b_RN_begin 2 "PlannedTables$Run" lev kc ks) (hw : mm_sh w) {n0 : Nat} (hn0 : mm_run w n0) {s1 : Nat} (hs1 : s1 < 39) (k0 : mm_go E Γ 2 178 [(0, mm_rf E n0), (1, mm_rf E (56 + 2 * s1))] [] w f ca sa) : mm_go E Γ 2 120 [(0, mm_rf E n0), (1, mm_rf E (56 + 2 * s1))] [] w f ca sa := by
  refine mm_goto h d_RN_begin_120 (tgt := 178) (by decide) ?_
  exact k0
theorem s_RN_begin_123 {E : mm_E} {Γ : mm_G} {lev kc ks ca sa : Nat} {w : mm_W} {f : mm_F} (h : mm_ok E Γ b_RN_begin 2 "PlannedTables$Run" lev kc ks) (hw : mm_sh w) {n0 : Nat} (hn0 : mm_run w n0) {s1 : Nat} (hs1 : s1 < 39) {vl0 vc0 vs0 : Nat} {P0 : Option Value → mm_W → mm_F → Prop} (hl0 : vl0 < lev) (hu0 : ca + vc0 ≤ kc) (hz0 : sa + vs0 ≤ ks) (m0 : mm_C E y_RN_wordOf b_RN_wordOf 3 (some .int) vl0 vc0 vs0 [mm_rf E n0, mm_rf E (56 + 2 * s1), .int 1] w f P0) (k1 : ∀ (r : Option Value) (w1 : mm_W) (f1 : mm_F), P0 r w1 f1 → mm_go E Γ 2 130 [(0, mm_rf E n0), (1, mm_rf E (56 + 2 * s1))] (r.toList ++ [mm_rf E (56 + 2 * s1)]) w1 f1 (ca + vc0) (sa + vs0)) : mm_go E Γ 2 123 [(0, mm_rf E n0), (1, mm_rf E (56 + 2 * s1))] [] w f ca sa := by
  refine mm_aload_n h d_RN_begin_123 1 rfl rfl ?_
  refine mm_aload_n h d_RN_begin_124 0 rfl rfl ?_
  refine mm_aload_n h d_RN_begin_125 1 rfl rfl ?_
  refine mm_iconst (v := 1) h d_RN_begin_126 (by decide) ?_
  exact mm_callV (As := [mm_rf E (56 + 2 * s1), .int 1]) (rest := [mm_rf E (56 + 2 * s1)]) h m0 cv_RN_75 cm_RN_wordOf hl0 (q0 := _) rfl rfl hn0.2.1 hu0 hz0 rfl rfl (Nat.le_of_ble_eq_true rfl) d_RN_begin_127 (fun r w1 f1 hp => k1 r w1 f1 hp)
theorem s_RN_begin_130 {E : mm_E} {Γ : mm_G} {lev kc ks ca sa : Nat} {w : mm_W} {f : mm_F} (h : mm_ok E Γ b_RN_begin 2 "PlannedTables$Run" lev kc ks) (hw : mm_sh w) {n0 : Nat} (hn0 : mm_run w n0) {s1 : Nat} (hs1 : s1 < 39) {sk0 : Nat} (hsk0 : sk0 < 39) {xk1 : Int32} {vl0 vc0 vs0 : Nat} {P0 : Option Value → mm_W → mm_F → Prop} (hl0 : vl0 < lev) (hu0 : ca + vc0 ≤ kc) (hz0 : sa + vs0 ≤ ks) (m0 : mm_C E y_RN_wordOf b_RN_wordOf 3 (some .int) vl0 vc0 vs0 [mm_rf E n0, mm_rf E (56 + 2 * s1), .int 2] w (mm_up f (56 + 2 * sk0) 3 xk1) P0) (k1 : ∀ (r : Option Value) (w1 : mm_W) (f1 : mm_F), P0 r w1 f1 → mm_go E Γ 2 140 [(0, mm_rf E n0), (1, mm_rf E (56 + 2 * s1))] (r.toList ++ [mm_rf E (56 + 2 * s1)]) w1 f1 (ca + vc0) (sa + vs0)) : mm_go E Γ 2 130 [(0, mm_rf E n0), (1, mm_rf E (56 + 2 * s1))] [.int xk1, mm_rf E (56 + 2 * sk0)] w f ca sa := by
  refine mm_puti h fl_RN_78 (Or.inl rfl) rfl rfl rfl (is_S hw hsk0) d_RN_begin_130 ?_
  refine mm_aload_n h d_RN_begin_133 1 rfl rfl ?_
  refine mm_aload_n h d_RN_begin_134 0 rfl rfl ?_
  refine mm_aload_n h d_RN_begin_135 1 rfl rfl ?_
  refine mm_iconst (v := 2) h d_RN_begin_136 (by decide) ?_
  exact mm_callV (As := [mm_rf E (56 + 2 * s1), .int 2]) (rest := [mm_rf E (56 + 2 * s1)]) h m0 cv_RN_75 cm_RN_wordOf hl0 (q0 := _) rfl rfl hn0.2.1 hu0 hz0 rfl rfl (Nat.le_of_ble_eq_true rfl) d_RN_begin_137 (fun r w1 f1 hp => k1 r w1 f1 hp)
theorem s_RN_begin_140 {E : mm_E} {Γ : mm_G} {lev kc ks ca sa : Nat} {w : mm_W} {f : mm_F} (h : mm_ok E Γ b_RN_begin 2 "PlannedTables$Run" lev kc ks) (hw : mm_sh w) {n0 : Nat} (hn0 : mm_run w n0) {s1 : Nat} (hs1 : s1 < 39) {sk0 : Nat} (hsk0 : sk0 < 39) {xk1 : Int32} (b0 : vp_in ((mm_up f (56 + 2 * sk0) 4 xk1) (56 + 2 * s1) 3) 4) (k1 : mm_go E Γ 2 178 [(0, mm_rf E n0), (1, mm_rf E (56 + 2 * s1))] [] w (mm_up (mm_up f (56 + 2 * sk0) 4 xk1) (56 + 2 * s1) 5 ((mm_up f (56 + 2 * sk0) 4 xk1) (4 + 12 * (((mm_up f (56 + 2 * sk0) 4 xk1) (56 + 2 * s1) 3)).toNatClampNeg) 1)) ca sa) : mm_go E Γ 2 140 [(0, mm_rf E n0), (1, mm_rf E (56 + 2 * s1))] [.int xk1, mm_rf E (56 + 2 * sk0)] w f ca sa := by
  refine mm_puti h fl_RN_81 (Or.inl rfl) rfl rfl rfl (is_S hw hsk0) d_RN_begin_140 ?_
  refine mm_aload_n h d_RN_begin_143 1 rfl rfl ?_
  refine mm_aload_n h d_RN_begin_144 0 rfl rfl ?_
  refine mm_getr h fl_RN_15 rfl hn0.2.1 hn0.2.2.1 (is_TS hw).1 d_RN_begin_145 ?_
  refine mm_getr h fl_RN_90 rfl (is_TS hw) (rf_TS_all hw) (is_TA hw).1.1 d_RN_begin_148 ?_
  refine mm_aload_n h d_RN_begin_151 1 rfl rfl ?_
  refine mm_geti h fl_RN_78 rfl (is_S hw hs1) d_RN_begin_152 ?_
  refine mm_aald h 4 rfl rfl rfl (fun _ => rfl) (is_TA hw) b0 (ra_TA hw (mm_in_lt b0)) (is_T hw (mm_in_lt b0)).1 d_RN_begin_155 ?_
  refine mm_geti h fl_RN_96 rfl (is_T hw (mm_in_lt b0)) d_RN_begin_156 ?_
  refine mm_puti h fl_RN_99 (Or.inl rfl) rfl rfl rfl (is_S hw hs1) d_RN_begin_159 ?_
  refine mm_goto h d_RN_begin_162 (tgt := 178) (by decide) ?_
  exact k1
theorem s_RN_begin_165 {E : mm_E} {Γ : mm_G} {lev kc ks ca sa : Nat} {w : mm_W} {f : mm_F} (h : mm_ok E Γ b_RN_begin 2 "PlannedTables$Run" lev kc ks) (hw : mm_sh w) {n0 : Nat} (hn0 : mm_run w n0) {s1 : Nat} (hs1 : s1 < 39) {vl0 vc0 vs0 : Nat} {P0 : Option Value → mm_W → mm_F → Prop} (hl0 : vl0 < lev) (hu0 : ca + vc0 ≤ kc) (hz0 : sa + vs0 ≤ ks) (m0 : mm_C E y_RN_wordOf b_RN_wordOf 3 (some .int) vl0 vc0 vs0 [mm_rf E n0, mm_rf E (56 + 2 * s1), .int 1] w f P0) (k1 : ∀ (r : Option Value) (w1 : mm_W) (f1 : mm_F), P0 r w1 f1 → mm_go E Γ 2 172 [(0, mm_rf E n0), (1, mm_rf E (56 + 2 * s1))] (r.toList ++ [mm_rf E (56 + 2 * s1)]) w1 f1 (ca + vc0) (sa + vs0)) : mm_go E Γ 2 165 [(0, mm_rf E n0), (1, mm_rf E (56 + 2 * s1))] [] w f ca sa := by
  refine mm_aload_n h d_RN_begin_165 1 rfl rfl ?_
  refine mm_aload_n h d_RN_begin_166 0 rfl rfl ?_
  refine mm_aload_n h d_RN_begin_167 1 rfl rfl ?_
  refine mm_iconst (v := 1) h d_RN_begin_168 (by decide) ?_
  exact mm_callV (As := [mm_rf E (56 + 2 * s1), .int 1]) (rest := [mm_rf E (56 + 2 * s1)]) h m0 cv_RN_75 cm_RN_wordOf hl0 (q0 := _) rfl rfl hn0.2.1 hu0 hz0 rfl rfl (Nat.le_of_ble_eq_true rfl) d_RN_begin_169 (fun r w1 f1 hp => k1 r w1 f1 hp)
theorem s_RN_begin_172 {E : mm_E} {Γ : mm_G} {lev kc ks ca sa : Nat} {w : mm_W} {f : mm_F} (h : mm_ok E Γ b_RN_begin 2 "PlannedTables$Run" lev kc ks) (hw : mm_sh w) {n0 : Nat} (hn0 : mm_run w n0) {s1 : Nat} (hs1 : s1 < 39) {sk0 : Nat} (hsk0 : sk0 < 39) {xk1 : Int32} (k0 : mm_go E Γ 2 178 [(0, mm_rf E n0), (1, mm_rf E (56 + 2 * s1))] [] w (mm_up f (56 + 2 * sk0) 7 xk1) ca sa) : mm_go E Γ 2 172 [(0, mm_rf E n0), (1, mm_rf E (56 + 2 * s1))] [.int xk1, mm_rf E (56 + 2 * sk0)] w f ca sa := by
  refine mm_puti h fl_RN_63 (Or.inl rfl) rfl rfl rfl (is_S hw hsk0) d_RN_begin_172 ?_
  refine mm_goto h d_RN_begin_175 (tgt := 178) (by decide) ?_
  exact k0
theorem s_RN_begin_178 {E : mm_E} {Γ : mm_G} {lev kc ks ca sa : Nat} {w : mm_W} {f : mm_F} {Post : Option Value → mm_W → mm_F → Prop} (h : mm_ok E Γ b_RN_begin 2 "PlannedTables$Run" lev kc ks) (he : mm_end E Γ none kc ks Post y_RN_begin.name) (hca : ca ≤ kc) (hsa : sa ≤ ks) (hw : mm_sh w) {n0 : Nat} (hn0 : mm_run w n0) {s1 : Nat} (hs1 : s1 < 39) (k0 : Post none w f) : mm_go E Γ 2 178 [(0, mm_rf E n0), (1, mm_rf E (56 + 2 * s1))] [] w f ca sa := by
  exact mm_vret h he d_RN_begin_178 hca hsa k0
theorem d_RN_react_0 : decode b_RN_react 0 = .ok (.iload_n 2, 1) := by decide +kernel
theorem d_RN_react_1 : decode b_RN_react 1 = .ok (.ifCond .ne (9), 3) := by decide +kernel
theorem d_RN_react_4 : decode b_RN_react 4 = .ok (.aload_n 0, 1) := by decide +kernel
theorem d_RN_react_5 : decode b_RN_react 5 = .ok (.aload_n 1, 1) := by decide +kernel
theorem d_RN_react_6 : decode b_RN_react 6 = .ok (.invokevirtual 102, 3) := by decide +kernel
theorem d_RN_react_9 : decode b_RN_react 9 = .ok (.ireturn, 1) := by decide +kernel
theorem d_RN_react_10 : decode b_RN_react 10 = .ok (.iload_n 2, 1) := by decide +kernel
theorem d_RN_react_11 : decode b_RN_react 11 = .ok (.iconst (1), 1) := by decide +kernel
theorem d_RN_react_12 : decode b_RN_react 12 = .ok (.if_icmp .ne (11), 3) := by decide +kernel
theorem d_RN_react_15 : decode b_RN_react 15 = .ok (.aload_n 0, 1) := by decide +kernel
theorem d_RN_react_16 : decode b_RN_react 16 = .ok (.aload_n 1, 1) := by decide +kernel
theorem d_RN_react_17 : decode b_RN_react 17 = .ok (.invokevirtual 106, 3) := by decide +kernel
theorem d_RN_react_20 : decode b_RN_react 20 = .ok (.goto (8), 3) := by decide +kernel
theorem d_RN_react_23 : decode b_RN_react 23 = .ok (.aload_n 0, 1) := by decide +kernel
theorem d_RN_react_24 : decode b_RN_react 24 = .ok (.aload_n 1, 1) := by decide +kernel
theorem d_RN_react_25 : decode b_RN_react 25 = .ok (.invokevirtual 109, 3) := by decide +kernel
theorem d_RN_react_28 : decode b_RN_react 28 = .ok (.ireturn, 1) := by decide +kernel
theorem s_RN_react_0 {E : mm_E} {Γ : mm_G} {lev kc ks ca sa : Nat} {w : mm_W} {f : mm_F} (h : mm_ok E Γ b_RN_react 3 "PlannedTables$Run" lev kc ks) (hw : mm_sh w) {n0 : Nat} (hn0 : mm_run w n0) {s1 : Nat} (hs1 : s1 < 39) {x2 : Int32} {vl0 vc0 vs0 : Nat} {P0 : Option Value → mm_W → mm_F → Prop} (hl0 : vl0 < lev) (hu0 : ca + vc0 ≤ kc) (hz0 : sa + vs0 ≤ ks) (m0 : ¬ x2 = 0 → ¬ x2 = 1 → mm_C E y_RN_whenEnded b_RN_whenEnded 2 (some .int) vl0 vc0 vs0 [mm_rf E n0, mm_rf E (56 + 2 * s1)] w f P0) (k1 : ¬ x2 = 0 → ¬ x2 = 1 → ∀ (r : Option Value) (w1 : mm_W) (f1 : mm_F), P0 r w1 f1 → mm_go E Γ 3 28 [(0, mm_rf E n0), (1, mm_rf E (56 + 2 * s1)), (2, .int x2)] (r.toList ++ []) w1 f1 (ca + vc0) (sa + vs0)) {vl1 vc1 vs1 : Nat} {P1 : Option Value → mm_W → mm_F → Prop} (hl1 : vl1 < lev) (hu1 : ca + vc1 ≤ kc) (hz1 : sa + vs1 ≤ ks) (m2 : ¬ x2 = 0 → x2 = 1 → mm_C E y_RN_whenGiven b_RN_whenGiven 2 (some .int) vl1 vc1 vs1 [mm_rf E n0, mm_rf E (56 + 2 * s1)] w f P1) (k3 : ¬ x2 = 0 → x2 = 1 → ∀ (r : Option Value) (w1 : mm_W) (f1 : mm_F), P1 r w1 f1 → mm_go E Γ 3 20 [(0, mm_rf E n0), (1, mm_rf E (56 + 2 * s1)), (2, .int x2)] (r.toList ++ []) w1 f1 (ca + vc1) (sa + vs1)) {vl2 vc2 vs2 : Nat} {P2 : Option Value → mm_W → mm_F → Prop} (hl2 : vl2 < lev) (hu2 : ca + vc2 ≤ kc) (hz2 : sa + vs2 ≤ ks) (m4 : x2 = 0 → mm_C E y_RN_whenAsked b_RN_whenAsked 2 (some .int) vl2 vc2 vs2 [mm_rf E n0, mm_rf E (56 + 2 * s1)] w f P2) (k5 : x2 = 0 → ∀ (r : Option Value) (w1 : mm_W) (f1 : mm_F), P2 r w1 f1 → mm_go E Γ 3 9 [(0, mm_rf E n0), (1, mm_rf E (56 + 2 * s1)), (2, .int x2)] (r.toList ++ []) w1 f1 (ca + vc2) (sa + vs2)) : mm_go E Γ 3 0 [(0, mm_rf E n0), (1, mm_rf E (56 + 2 * s1)), (2, .int x2)] [] w f ca sa := by
  refine mm_iload_n h d_RN_react_0 2 rfl rfl ?_
  refine mm_if_ne h d_RN_react_1 (tgt := 10) (by decide) (fun c1 => ?_) (fun c1 => ?_)
  · skip
    refine mm_iload_n h d_RN_react_10 2 rfl rfl ?_
    refine mm_iconst (v := 1) h d_RN_react_11 (by decide) ?_
    refine mm_icmp_ne h d_RN_react_12 (tgt := 23) (by decide) (fun c2 => ?_) (fun c2 => ?_)
    · skip
      refine mm_aload_n h d_RN_react_23 0 rfl rfl ?_
      refine mm_aload_n h d_RN_react_24 1 rfl rfl ?_
      exact mm_callV (As := [mm_rf E (56 + 2 * s1)]) (rest := []) h (m0 c1 c2) cv_RN_109 cm_RN_whenEnded hl0 (q0 := _) rfl rfl hn0.2.1 hu0 hz0 rfl rfl (Nat.le_of_ble_eq_true rfl) d_RN_react_25 (fun r w1 f1 hp => (k1 c1 c2) r w1 f1 hp)
    · skip
      refine mm_aload_n h d_RN_react_15 0 rfl rfl ?_
      refine mm_aload_n h d_RN_react_16 1 rfl rfl ?_
      exact mm_callV (As := [mm_rf E (56 + 2 * s1)]) (rest := []) h (m2 c1 c2) cv_RN_106 cm_RN_whenGiven hl1 (q0 := _) rfl rfl hn0.2.1 hu1 hz1 rfl rfl (Nat.le_of_ble_eq_true rfl) d_RN_react_17 (fun r w1 f1 hp => (k3 c1 c2) r w1 f1 hp)
  · skip
    refine mm_aload_n h d_RN_react_4 0 rfl rfl ?_
    refine mm_aload_n h d_RN_react_5 1 rfl rfl ?_
    exact mm_callV (As := [mm_rf E (56 + 2 * s1)]) (rest := []) h (m4 c1) cv_RN_102 cm_RN_whenAsked hl2 (q0 := _) rfl rfl hn0.2.1 hu2 hz2 rfl rfl (Nat.le_of_ble_eq_true rfl) d_RN_react_6 (fun r w1 f1 hp => (k5 c1) r w1 f1 hp)
theorem s_RN_react_9 {E : mm_E} {Γ : mm_G} {lev kc ks ca sa : Nat} {w : mm_W} {f : mm_F} {Post : Option Value → mm_W → mm_F → Prop} (h : mm_ok E Γ b_RN_react 3 "PlannedTables$Run" lev kc ks) (he : mm_end E Γ (some .int) kc ks Post y_RN_react.name) (hca : ca ≤ kc) (hsa : sa ≤ ks) (hw : mm_sh w) {n0 : Nat} (hn0 : mm_run w n0) {s1 : Nat} (hs1 : s1 < 39) {x2 : Int32} {xk0 : Int32} (k0 : Post (some (.int xk0)) w f) : mm_go E Γ 3 9 [(0, mm_rf E n0), (1, mm_rf E (56 + 2 * s1)), (2, .int x2)] [.int xk0] w f ca sa := by
  exact mm_iret h he rfl d_RN_react_9 hca hsa k0
theorem s_RN_react_20 {E : mm_E} {Γ : mm_G} {lev kc ks ca sa : Nat} {w : mm_W} {f : mm_F} (h : mm_ok E Γ b_RN_react 3 "PlannedTables$Run" lev kc ks) (hw : mm_sh w) {n0 : Nat} (hn0 : mm_run w n0) {s1 : Nat} (hs1 : s1 < 39) {x2 : Int32} {xk0 : Int32} (k0 : mm_go E Γ 3 28 [(0, mm_rf E n0), (1, mm_rf E (56 + 2 * s1)), (2, .int x2)] [.int xk0] w f ca sa) : mm_go E Γ 3 20 [(0, mm_rf E n0), (1, mm_rf E (56 + 2 * s1)), (2, .int x2)] [.int xk0] w f ca sa := by
  refine mm_goto h d_RN_react_20 (tgt := 28) (by decide) ?_
  exact k0
theorem s_RN_react_28 {E : mm_E} {Γ : mm_G} {lev kc ks ca sa : Nat} {w : mm_W} {f : mm_F} {Post : Option Value → mm_W → mm_F → Prop} (h : mm_ok E Γ b_RN_react 3 "PlannedTables$Run" lev kc ks) (he : mm_end E Γ (some .int) kc ks Post y_RN_react.name) (hca : ca ≤ kc) (hsa : sa ≤ ks) (hw : mm_sh w) {n0 : Nat} (hn0 : mm_run w n0) {s1 : Nat} (hs1 : s1 < 39) {x2 : Int32} {xk0 : Int32} (k0 : Post (some (.int xk0)) w f) : mm_go E Γ 3 28 [(0, mm_rf E n0), (1, mm_rf E (56 + 2 * s1)), (2, .int x2)] [.int xk0] w f ca sa := by
  exact mm_iret h he rfl d_RN_react_28 hca hsa k0
theorem d_RN_whenAsked_0 : decode b_RN_whenAsked 0 = .ok (.aload_n 1, 1) := by decide +kernel
theorem d_RN_whenAsked_1 : decode b_RN_whenAsked 1 = .ok (.getfield 72, 3) := by decide +kernel
theorem d_RN_whenAsked_4 : decode b_RN_whenAsked 4 = .ok (.tableswitch (71) (1) (7) #[(44), (44), (71), (71), (51), (71), (58)], 44) := by decide +kernel
theorem d_RN_whenAsked_48 : decode b_RN_whenAsked 48 = .ok (.aload_n 0, 1) := by decide +kernel
theorem d_RN_whenAsked_49 : decode b_RN_whenAsked 49 = .ok (.aload_n 1, 1) := by decide +kernel
theorem d_RN_whenAsked_50 : decode b_RN_whenAsked 50 = .ok (.iconst (2), 1) := by decide +kernel
theorem d_RN_whenAsked_51 : decode b_RN_whenAsked 51 = .ok (.invokevirtual 112, 3) := by decide +kernel
theorem d_RN_whenAsked_54 : decode b_RN_whenAsked 54 = .ok (.ireturn, 1) := by decide +kernel
theorem d_RN_whenAsked_55 : decode b_RN_whenAsked 55 = .ok (.aload_n 0, 1) := by decide +kernel
theorem d_RN_whenAsked_56 : decode b_RN_whenAsked 56 = .ok (.aload_n 1, 1) := by decide +kernel
theorem d_RN_whenAsked_57 : decode b_RN_whenAsked 57 = .ok (.iconst (0), 1) := by decide +kernel
theorem d_RN_whenAsked_58 : decode b_RN_whenAsked 58 = .ok (.invokevirtual 112, 3) := by decide +kernel
theorem d_RN_whenAsked_61 : decode b_RN_whenAsked 61 = .ok (.ireturn, 1) := by decide +kernel
theorem d_RN_whenAsked_62 : decode b_RN_whenAsked 62 = .ok (.aload_n 1, 1) := by decide +kernel
theorem d_RN_whenAsked_63 : decode b_RN_whenAsked 63 = .ok (.getfield 63, 3) := by decide +kernel
theorem d_RN_whenAsked_66 : decode b_RN_whenAsked 66 = .ok (.ifCond .ne (7), 3) := by decide +kernel
theorem d_RN_whenAsked_69 : decode b_RN_whenAsked 69 = .ok (.iconst (2), 1) := by decide +kernel
theorem d_RN_whenAsked_70 : decode b_RN_whenAsked 70 = .ok (.goto (4), 3) := by decide +kernel
theorem d_RN_whenAsked_73 : decode b_RN_whenAsked 73 = .ok (.iconst (0), 1) := by decide +kernel
theorem d_RN_whenAsked_74 : decode b_RN_whenAsked 74 = .ok (.ireturn, 1) := by decide +kernel
theorem d_RN_whenAsked_75 : decode b_RN_whenAsked 75 = .ok (.aload_n 1, 1) := by decide +kernel
theorem d_RN_whenAsked_76 : decode b_RN_whenAsked 76 = .ok (.getfield 68, 3) := by decide +kernel
theorem d_RN_whenAsked_79 : decode b_RN_whenAsked 79 = .ok (.ifCond .eq (7), 3) := by decide +kernel
theorem d_RN_whenAsked_82 : decode b_RN_whenAsked 82 = .ok (.iconst (2), 1) := by decide +kernel
theorem d_RN_whenAsked_83 : decode b_RN_whenAsked 83 = .ok (.goto (4), 3) := by decide +kernel
theorem d_RN_whenAsked_86 : decode b_RN_whenAsked 86 = .ok (.iconst (0), 1) := by decide +kernel
theorem d_RN_whenAsked_87 : decode b_RN_whenAsked 87 = .ok (.ireturn, 1) := by decide +kernel
theorem s_RN_whenAsked_0 {E : mm_E} {Γ : mm_G} {lev kc ks ca sa : Nat} {w : mm_W} {f : mm_F} (h : mm_ok E Γ b_RN_whenAsked 2 "PlannedTables$Run" lev kc ks) (hw : mm_sh w) {n0 : Nat} (hn0 : mm_run w n0) {s1 : Nat} (hs1 : s1 < 39) (k0 : (f (56 + 2 * s1) 0) = 1 → mm_go E Γ 2 48 [(0, mm_rf E n0), (1, mm_rf E (56 + 2 * s1))] [] w f ca sa) (k1 : ¬ (f (56 + 2 * s1) 0) = 1 → (f (56 + 2 * s1) 0) = 2 → mm_go E Γ 2 48 [(0, mm_rf E n0), (1, mm_rf E (56 + 2 * s1))] [] w f ca sa) (k2 : ¬ (f (56 + 2 * s1) 0) = 1 → ¬ (f (56 + 2 * s1) 0) = 2 → (f (56 + 2 * s1) 0) = 3 → mm_go E Γ 2 75 [(0, mm_rf E n0), (1, mm_rf E (56 + 2 * s1))] [] w f ca sa) (k3 : ¬ (f (56 + 2 * s1) 0) = 1 → ¬ (f (56 + 2 * s1) 0) = 2 → ¬ (f (56 + 2 * s1) 0) = 3 → (f (56 + 2 * s1) 0) = 4 → mm_go E Γ 2 75 [(0, mm_rf E n0), (1, mm_rf E (56 + 2 * s1))] [] w f ca sa) (k4 : ¬ (f (56 + 2 * s1) 0) = 1 → ¬ (f (56 + 2 * s1) 0) = 2 → ¬ (f (56 + 2 * s1) 0) = 3 → ¬ (f (56 + 2 * s1) 0) = 4 → (f (56 + 2 * s1) 0) = 5 → mm_go E Γ 2 55 [(0, mm_rf E n0), (1, mm_rf E (56 + 2 * s1))] [] w f ca sa) (k5 : ¬ (f (56 + 2 * s1) 0) = 1 → ¬ (f (56 + 2 * s1) 0) = 2 → ¬ (f (56 + 2 * s1) 0) = 3 → ¬ (f (56 + 2 * s1) 0) = 4 → ¬ (f (56 + 2 * s1) 0) = 5 → (f (56 + 2 * s1) 0) = 6 → mm_go E Γ 2 75 [(0, mm_rf E n0), (1, mm_rf E (56 + 2 * s1))] [] w f ca sa) (k6 : ¬ (f (56 + 2 * s1) 0) = 1 → ¬ (f (56 + 2 * s1) 0) = 2 → ¬ (f (56 + 2 * s1) 0) = 3 → ¬ (f (56 + 2 * s1) 0) = 4 → ¬ (f (56 + 2 * s1) 0) = 5 → ¬ (f (56 + 2 * s1) 0) = 6 → (f (56 + 2 * s1) 0) = 7 → mm_go E Γ 2 62 [(0, mm_rf E n0), (1, mm_rf E (56 + 2 * s1))] [] w f ca sa) (k7 : ¬ (f (56 + 2 * s1) 0) = 1 → ¬ (f (56 + 2 * s1) 0) = 2 → ¬ (f (56 + 2 * s1) 0) = 3 → ¬ (f (56 + 2 * s1) 0) = 4 → ¬ (f (56 + 2 * s1) 0) = 5 → ¬ (f (56 + 2 * s1) 0) = 6 → ¬ (f (56 + 2 * s1) 0) = 7 → mm_go E Γ 2 75 [(0, mm_rf E n0), (1, mm_rf E (56 + 2 * s1))] [] w f ca sa) : mm_go E Γ 2 0 [(0, mm_rf E n0), (1, mm_rf E (56 + 2 * s1))] [] w f ca sa := by
  refine mm_aload_n h d_RN_whenAsked_0 1 rfl rfl ?_
  refine mm_geti h fl_RN_72 rfl (is_S hw hs1) d_RN_whenAsked_1 ?_
  by_cases c1 : (f (56 + 2 * s1) 0) = 1
  · refine mm_tin h d_RN_whenAsked_4 (by rw [c1]; decide) (by rw [c1]; decide) (off := 44) (by rw [c1]; rfl) (tgt := 48) (by decide) ?_
    exact (k0 c1)
  by_cases c2 : (f (56 + 2 * s1) 0) = 2
  · refine mm_tin h d_RN_whenAsked_4 (by rw [c2]; decide) (by rw [c2]; decide) (off := 44) (by rw [c2]; rfl) (tgt := 48) (by decide) ?_
    exact (k1 c1 c2)
  by_cases c3 : (f (56 + 2 * s1) 0) = 3
  · refine mm_tin h d_RN_whenAsked_4 (by rw [c3]; decide) (by rw [c3]; decide) (off := 71) (by rw [c3]; rfl) (tgt := 75) (by decide) ?_
    exact (k2 c1 c2 c3)
  by_cases c4 : (f (56 + 2 * s1) 0) = 4
  · refine mm_tin h d_RN_whenAsked_4 (by rw [c4]; decide) (by rw [c4]; decide) (off := 71) (by rw [c4]; rfl) (tgt := 75) (by decide) ?_
    exact (k3 c1 c2 c3 c4)
  by_cases c5 : (f (56 + 2 * s1) 0) = 5
  · refine mm_tin h d_RN_whenAsked_4 (by rw [c5]; decide) (by rw [c5]; decide) (off := 51) (by rw [c5]; rfl) (tgt := 55) (by decide) ?_
    exact (k4 c1 c2 c3 c4 c5)
  by_cases c6 : (f (56 + 2 * s1) 0) = 6
  · refine mm_tin h d_RN_whenAsked_4 (by rw [c6]; decide) (by rw [c6]; decide) (off := 71) (by rw [c6]; rfl) (tgt := 75) (by decide) ?_
    exact (k5 c1 c2 c3 c4 c5 c6)
  by_cases c7 : (f (56 + 2 * s1) 0) = 7
  · refine mm_tin h d_RN_whenAsked_4 (by rw [c7]; decide) (by rw [c7]; decide) (off := 58) (by rw [c7]; rfl) (tgt := 62) (by decide) ?_
    exact (k6 c1 c2 c3 c4 c5 c6 c7)
  refine mm_tout h d_RN_whenAsked_4 (by have q0 := mm_ne 1 1 (by decide) c1; have q1 := mm_ne 2 2 (by decide) c2; have q2 := mm_ne 3 3 (by decide) c3; have q3 := mm_ne 4 4 (by decide) c4; have q4 := mm_ne 5 5 (by decide) c5; have q5 := mm_ne 6 6 (by decide) c6; have q6 := mm_ne 7 7 (by decide) c7; omega) (tgt := 75) (by decide) ?_
  exact (k7 c1 c2 c3 c4 c5 c6 c7)
theorem s_RN_whenAsked_48 {E : mm_E} {Γ : mm_G} {lev kc ks ca sa : Nat} {w : mm_W} {f : mm_F} (h : mm_ok E Γ b_RN_whenAsked 2 "PlannedTables$Run" lev kc ks) (hw : mm_sh w) {n0 : Nat} (hn0 : mm_run w n0) {s1 : Nat} (hs1 : s1 < 39) {vl0 vc0 vs0 : Nat} {P0 : Option Value → mm_W → mm_F → Prop} (hl0 : vl0 < lev) (hu0 : ca + vc0 ≤ kc) (hz0 : sa + vs0 ≤ ks) (m0 : mm_C E y_RN_walkOn b_RN_walkOn 4 (some .int) vl0 vc0 vs0 [mm_rf E n0, mm_rf E (56 + 2 * s1), .int 2] w f P0) (k1 : ∀ (r : Option Value) (w1 : mm_W) (f1 : mm_F), P0 r w1 f1 → mm_go E Γ 2 54 [(0, mm_rf E n0), (1, mm_rf E (56 + 2 * s1))] (r.toList ++ []) w1 f1 (ca + vc0) (sa + vs0)) : mm_go E Γ 2 48 [(0, mm_rf E n0), (1, mm_rf E (56 + 2 * s1))] [] w f ca sa := by
  refine mm_aload_n h d_RN_whenAsked_48 0 rfl rfl ?_
  refine mm_aload_n h d_RN_whenAsked_49 1 rfl rfl ?_
  refine mm_iconst (v := 2) h d_RN_whenAsked_50 (by decide) ?_
  exact mm_callV (As := [mm_rf E (56 + 2 * s1), .int 2]) (rest := []) h m0 cv_RN_112 cm_RN_walkOn hl0 (q0 := _) rfl rfl hn0.2.1 hu0 hz0 rfl rfl (Nat.le_of_ble_eq_true rfl) d_RN_whenAsked_51 (fun r w1 f1 hp => k1 r w1 f1 hp)
theorem s_RN_whenAsked_54 {E : mm_E} {Γ : mm_G} {lev kc ks ca sa : Nat} {w : mm_W} {f : mm_F} {Post : Option Value → mm_W → mm_F → Prop} (h : mm_ok E Γ b_RN_whenAsked 2 "PlannedTables$Run" lev kc ks) (he : mm_end E Γ (some .int) kc ks Post y_RN_whenAsked.name) (hca : ca ≤ kc) (hsa : sa ≤ ks) (hw : mm_sh w) {n0 : Nat} (hn0 : mm_run w n0) {s1 : Nat} (hs1 : s1 < 39) {xk0 : Int32} (k0 : Post (some (.int xk0)) w f) : mm_go E Γ 2 54 [(0, mm_rf E n0), (1, mm_rf E (56 + 2 * s1))] [.int xk0] w f ca sa := by
  exact mm_iret h he rfl d_RN_whenAsked_54 hca hsa k0
theorem s_RN_whenAsked_55 {E : mm_E} {Γ : mm_G} {lev kc ks ca sa : Nat} {w : mm_W} {f : mm_F} (h : mm_ok E Γ b_RN_whenAsked 2 "PlannedTables$Run" lev kc ks) (hw : mm_sh w) {n0 : Nat} (hn0 : mm_run w n0) {s1 : Nat} (hs1 : s1 < 39) {vl0 vc0 vs0 : Nat} {P0 : Option Value → mm_W → mm_F → Prop} (hl0 : vl0 < lev) (hu0 : ca + vc0 ≤ kc) (hz0 : sa + vs0 ≤ ks) (m0 : mm_C E y_RN_walkOn b_RN_walkOn 4 (some .int) vl0 vc0 vs0 [mm_rf E n0, mm_rf E (56 + 2 * s1), .int 0] w f P0) (k1 : ∀ (r : Option Value) (w1 : mm_W) (f1 : mm_F), P0 r w1 f1 → mm_go E Γ 2 61 [(0, mm_rf E n0), (1, mm_rf E (56 + 2 * s1))] (r.toList ++ []) w1 f1 (ca + vc0) (sa + vs0)) : mm_go E Γ 2 55 [(0, mm_rf E n0), (1, mm_rf E (56 + 2 * s1))] [] w f ca sa := by
  refine mm_aload_n h d_RN_whenAsked_55 0 rfl rfl ?_
  refine mm_aload_n h d_RN_whenAsked_56 1 rfl rfl ?_
  refine mm_iconst (v := 0) h d_RN_whenAsked_57 (by decide) ?_
  exact mm_callV (As := [mm_rf E (56 + 2 * s1), .int 0]) (rest := []) h m0 cv_RN_112 cm_RN_walkOn hl0 (q0 := _) rfl rfl hn0.2.1 hu0 hz0 rfl rfl (Nat.le_of_ble_eq_true rfl) d_RN_whenAsked_58 (fun r w1 f1 hp => k1 r w1 f1 hp)
theorem s_RN_whenAsked_61 {E : mm_E} {Γ : mm_G} {lev kc ks ca sa : Nat} {w : mm_W} {f : mm_F} {Post : Option Value → mm_W → mm_F → Prop} (h : mm_ok E Γ b_RN_whenAsked 2 "PlannedTables$Run" lev kc ks) (he : mm_end E Γ (some .int) kc ks Post y_RN_whenAsked.name) (hca : ca ≤ kc) (hsa : sa ≤ ks) (hw : mm_sh w) {n0 : Nat} (hn0 : mm_run w n0) {s1 : Nat} (hs1 : s1 < 39) {xk0 : Int32} (k0 : Post (some (.int xk0)) w f) : mm_go E Γ 2 61 [(0, mm_rf E n0), (1, mm_rf E (56 + 2 * s1))] [.int xk0] w f ca sa := by
  exact mm_iret h he rfl d_RN_whenAsked_61 hca hsa k0
theorem s_RN_whenAsked_62 {E : mm_E} {Γ : mm_G} {lev kc ks ca sa : Nat} {w : mm_W} {f : mm_F} (h : mm_ok E Γ b_RN_whenAsked 2 "PlannedTables$Run" lev kc ks) (hw : mm_sh w) {n0 : Nat} (hn0 : mm_run w n0) {s1 : Nat} (hs1 : s1 < 39) (k0 : ¬ (f (56 + 2 * s1) 7) = 0 → mm_go E Γ 2 74 [(0, mm_rf E n0), (1, mm_rf E (56 + 2 * s1))] [.int 0] w f ca sa) (k1 : (f (56 + 2 * s1) 7) = 0 → mm_go E Γ 2 74 [(0, mm_rf E n0), (1, mm_rf E (56 + 2 * s1))] [.int 2] w f ca sa) : mm_go E Γ 2 62 [(0, mm_rf E n0), (1, mm_rf E (56 + 2 * s1))] [] w f ca sa := by
  refine mm_aload_n h d_RN_whenAsked_62 1 rfl rfl ?_
  refine mm_geti h fl_RN_63 rfl (is_S hw hs1) d_RN_whenAsked_63 ?_
  refine mm_if_ne h d_RN_whenAsked_66 (tgt := 73) (by decide) (fun c1 => ?_) (fun c1 => ?_)
  · skip
    refine mm_iconst (v := 0) h d_RN_whenAsked_73 (by decide) ?_
    exact (k0 c1)
  · skip
    refine mm_iconst (v := 2) h d_RN_whenAsked_69 (by decide) ?_
    refine mm_goto h d_RN_whenAsked_70 (tgt := 74) (by decide) ?_
    exact (k1 c1)
theorem s_RN_whenAsked_74 {E : mm_E} {Γ : mm_G} {lev kc ks ca sa : Nat} {w : mm_W} {f : mm_F} {Post : Option Value → mm_W → mm_F → Prop} (h : mm_ok E Γ b_RN_whenAsked 2 "PlannedTables$Run" lev kc ks) (he : mm_end E Γ (some .int) kc ks Post y_RN_whenAsked.name) (hca : ca ≤ kc) (hsa : sa ≤ ks) (hw : mm_sh w) {n0 : Nat} (hn0 : mm_run w n0) {s1 : Nat} (hs1 : s1 < 39) {xk0 : Int32} (k0 : Post (some (.int xk0)) w f) : mm_go E Γ 2 74 [(0, mm_rf E n0), (1, mm_rf E (56 + 2 * s1))] [.int xk0] w f ca sa := by
  exact mm_iret h he rfl d_RN_whenAsked_74 hca hsa k0
theorem s_RN_whenAsked_75 {E : mm_E} {Γ : mm_G} {lev kc ks ca sa : Nat} {w : mm_W} {f : mm_F} (h : mm_ok E Γ b_RN_whenAsked 2 "PlannedTables$Run" lev kc ks) (hw : mm_sh w) {n0 : Nat} (hn0 : mm_run w n0) {s1 : Nat} (hs1 : s1 < 39) (k0 : (f (56 + 2 * s1) 8) = 0 → mm_go E Γ 2 87 [(0, mm_rf E n0), (1, mm_rf E (56 + 2 * s1))] [.int 0] w f ca sa) (k1 : ¬ (f (56 + 2 * s1) 8) = 0 → mm_go E Γ 2 87 [(0, mm_rf E n0), (1, mm_rf E (56 + 2 * s1))] [.int 2] w f ca sa) : mm_go E Γ 2 75 [(0, mm_rf E n0), (1, mm_rf E (56 + 2 * s1))] [] w f ca sa := by
  refine mm_aload_n h d_RN_whenAsked_75 1 rfl rfl ?_
  refine mm_geti h fl_RN_68 rfl (is_S hw hs1) d_RN_whenAsked_76 ?_
  refine mm_if_eq h d_RN_whenAsked_79 (tgt := 86) (by decide) (fun c1 => ?_) (fun c1 => ?_)
  · skip
    refine mm_iconst (v := 0) h d_RN_whenAsked_86 (by decide) ?_
    exact (k0 c1)
  · skip
    refine mm_iconst (v := 2) h d_RN_whenAsked_82 (by decide) ?_
    refine mm_goto h d_RN_whenAsked_83 (tgt := 87) (by decide) ?_
    exact (k1 c1)
theorem s_RN_whenAsked_87 {E : mm_E} {Γ : mm_G} {lev kc ks ca sa : Nat} {w : mm_W} {f : mm_F} {Post : Option Value → mm_W → mm_F → Prop} (h : mm_ok E Γ b_RN_whenAsked 2 "PlannedTables$Run" lev kc ks) (he : mm_end E Γ (some .int) kc ks Post y_RN_whenAsked.name) (hca : ca ≤ kc) (hsa : sa ≤ ks) (hw : mm_sh w) {n0 : Nat} (hn0 : mm_run w n0) {s1 : Nat} (hs1 : s1 < 39) {xk0 : Int32} (k0 : Post (some (.int xk0)) w f) : mm_go E Γ 2 87 [(0, mm_rf E n0), (1, mm_rf E (56 + 2 * s1))] [.int xk0] w f ca sa := by
  exact mm_iret h he rfl d_RN_whenAsked_87 hca hsa k0
theorem d_RN_whenGiven_0 : decode b_RN_whenGiven 0 = .ok (.aload_n 1, 1) := by decide +kernel
theorem d_RN_whenGiven_1 : decode b_RN_whenGiven 1 = .ok (.getfield 72, 3) := by decide +kernel
theorem d_RN_whenGiven_4 : decode b_RN_whenGiven 4 = .ok (.tableswitch (183) (3) (10) #[(48), (78), (85), (124), (130), (142), (154), (171)], 48) := by decide +kernel
theorem d_RN_whenGiven_52 : decode b_RN_whenGiven 52 = .ok (.aload_n 0, 1) := by decide +kernel
theorem d_RN_whenGiven_53 : decode b_RN_whenGiven 53 = .ok (.aload_n 1, 1) := by decide +kernel
theorem d_RN_whenGiven_54 : decode b_RN_whenGiven 54 = .ok (.iconst (1), 1) := by decide +kernel
theorem d_RN_whenGiven_55 : decode b_RN_whenGiven 55 = .ok (.invokevirtual 115, 3) := by decide +kernel
theorem d_RN_whenGiven_58 : decode b_RN_whenGiven 58 = .ok (.aload_n 0, 1) := by decide +kernel
theorem d_RN_whenGiven_59 : decode b_RN_whenGiven 59 = .ok (.aload_n 1, 1) := by decide +kernel
theorem d_RN_whenGiven_60 : decode b_RN_whenGiven 60 = .ok (.iconst (2), 1) := by decide +kernel
theorem d_RN_whenGiven_61 : decode b_RN_whenGiven 61 = .ok (.invokevirtual 75, 3) := by decide +kernel
theorem d_RN_whenGiven_64 : decode b_RN_whenGiven 64 = .ok (.aload_n 0, 1) := by decide +kernel
theorem d_RN_whenGiven_65 : decode b_RN_whenGiven 65 = .ok (.aload_n 1, 1) := by decide +kernel
theorem d_RN_whenGiven_66 : decode b_RN_whenGiven 66 = .ok (.iconst (3), 1) := by decide +kernel
theorem d_RN_whenGiven_67 : decode b_RN_whenGiven 67 = .ok (.invokevirtual 75, 3) := by decide +kernel
theorem d_RN_whenGiven_70 : decode b_RN_whenGiven 70 = .ok (.invokestatic 118, 3) := by decide +kernel
theorem d_RN_whenGiven_73 : decode b_RN_whenGiven 73 = .ok (.ifCond .eq (7), 3) := by decide +kernel
theorem d_RN_whenGiven_76 : decode b_RN_whenGiven 76 = .ok (.iconst (1), 1) := by decide +kernel
theorem d_RN_whenGiven_77 : decode b_RN_whenGiven 77 = .ok (.goto (4), 3) := by decide +kernel
theorem d_RN_whenGiven_80 : decode b_RN_whenGiven 80 = .ok (.iconst (0), 1) := by decide +kernel
theorem d_RN_whenGiven_81 : decode b_RN_whenGiven 81 = .ok (.ireturn, 1) := by decide +kernel
theorem d_RN_whenGiven_82 : decode b_RN_whenGiven 82 = .ok (.aload_n 0, 1) := by decide +kernel
theorem d_RN_whenGiven_83 : decode b_RN_whenGiven 83 = .ok (.aload_n 1, 1) := by decide +kernel
theorem d_RN_whenGiven_84 : decode b_RN_whenGiven 84 = .ok (.invokevirtual 122, 3) := by decide +kernel
theorem d_RN_whenGiven_87 : decode b_RN_whenGiven 87 = .ok (.iconst (1), 1) := by decide +kernel
theorem d_RN_whenGiven_88 : decode b_RN_whenGiven 88 = .ok (.ireturn, 1) := by decide +kernel
theorem d_RN_whenGiven_89 : decode b_RN_whenGiven 89 = .ok (.aload_n 0, 1) := by decide +kernel
theorem d_RN_whenGiven_90 : decode b_RN_whenGiven 90 = .ok (.getfield 9, 3) := by decide +kernel
theorem d_RN_whenGiven_93 : decode b_RN_whenGiven 93 = .ok (.aload_n 1, 1) := by decide +kernel
theorem d_RN_whenGiven_94 : decode b_RN_whenGiven 94 = .ok (.getfield 125, 3) := by decide +kernel
theorem d_RN_whenGiven_97 : decode b_RN_whenGiven 97 = .ok (.aload_n 1, 1) := by decide +kernel
theorem d_RN_whenGiven_98 : decode b_RN_whenGiven 98 = .ok (.getfield 128, 3) := by decide +kernel
theorem d_RN_whenGiven_101 : decode b_RN_whenGiven 101 = .ok (.invokestatic 131, 3) := by decide +kernel
theorem d_RN_whenGiven_104 : decode b_RN_whenGiven 104 = .ok (.aload_n 0, 1) := by decide +kernel
theorem d_RN_whenGiven_105 : decode b_RN_whenGiven 105 = .ok (.aload_n 1, 1) := by decide +kernel
theorem d_RN_whenGiven_106 : decode b_RN_whenGiven 106 = .ok (.aload_n 0, 1) := by decide +kernel
theorem d_RN_whenGiven_107 : decode b_RN_whenGiven 107 = .ok (.aload_n 1, 1) := by decide +kernel
theorem d_RN_whenGiven_108 : decode b_RN_whenGiven 108 = .ok (.iconst (3), 1) := by decide +kernel
theorem d_RN_whenGiven_109 : decode b_RN_whenGiven 109 = .ok (.invokevirtual 115, 3) := by decide +kernel
theorem d_RN_whenGiven_112 : decode b_RN_whenGiven 112 = .ok (.aload_n 0, 1) := by decide +kernel
theorem d_RN_whenGiven_113 : decode b_RN_whenGiven 113 = .ok (.aload_n 1, 1) := by decide +kernel
theorem d_RN_whenGiven_114 : decode b_RN_whenGiven 114 = .ok (.iconst (3), 1) := by decide +kernel
theorem d_RN_whenGiven_115 : decode b_RN_whenGiven 115 = .ok (.invokevirtual 115, 3) := by decide +kernel
theorem d_RN_whenGiven_118 : decode b_RN_whenGiven 118 = .ok (.invokevirtual 86, 3) := by decide +kernel
theorem d_RN_whenGiven_121 : decode b_RN_whenGiven 121 = .ok (.aload_n 0, 1) := by decide +kernel
theorem d_RN_whenGiven_122 : decode b_RN_whenGiven 122 = .ok (.aload_n 1, 1) := by decide +kernel
theorem d_RN_whenGiven_123 : decode b_RN_whenGiven 123 = .ok (.iconst (0), 1) := by decide +kernel
theorem d_RN_whenGiven_124 : decode b_RN_whenGiven 124 = .ok (.invokevirtual 112, 3) := by decide +kernel
theorem d_RN_whenGiven_127 : decode b_RN_whenGiven 127 = .ok (.ireturn, 1) := by decide +kernel
theorem d_RN_whenGiven_128 : decode b_RN_whenGiven 128 = .ok (.aload_n 0, 1) := by decide +kernel
theorem d_RN_whenGiven_129 : decode b_RN_whenGiven 129 = .ok (.aload_n 1, 1) := by decide +kernel
theorem d_RN_whenGiven_130 : decode b_RN_whenGiven 130 = .ok (.invokevirtual 135, 3) := by decide +kernel
theorem d_RN_whenGiven_133 : decode b_RN_whenGiven 133 = .ok (.ireturn, 1) := by decide +kernel
theorem d_RN_whenGiven_134 : decode b_RN_whenGiven 134 = .ok (.aload_n 1, 1) := by decide +kernel
theorem d_RN_whenGiven_135 : decode b_RN_whenGiven 135 = .ok (.dup, 1) := by decide +kernel
theorem d_RN_whenGiven_136 : decode b_RN_whenGiven 136 = .ok (.getfield 63, 3) := by decide +kernel
theorem d_RN_whenGiven_139 : decode b_RN_whenGiven 139 = .ok (.iconst (1), 1) := by decide +kernel
theorem d_RN_whenGiven_140 : decode b_RN_whenGiven 140 = .ok (.isub, 1) := by decide +kernel
theorem d_RN_whenGiven_141 : decode b_RN_whenGiven 141 = .ok (.putfield 63, 3) := by decide +kernel
theorem d_RN_whenGiven_144 : decode b_RN_whenGiven 144 = .ok (.iconst (1), 1) := by decide +kernel
theorem d_RN_whenGiven_145 : decode b_RN_whenGiven 145 = .ok (.ireturn, 1) := by decide +kernel
theorem d_RN_whenGiven_146 : decode b_RN_whenGiven 146 = .ok (.aload_n 1, 1) := by decide +kernel
theorem d_RN_whenGiven_147 : decode b_RN_whenGiven 147 = .ok (.dup, 1) := by decide +kernel
theorem d_RN_whenGiven_148 : decode b_RN_whenGiven 148 = .ok (.getfield 63, 3) := by decide +kernel
theorem d_RN_whenGiven_151 : decode b_RN_whenGiven 151 = .ok (.iconst (1), 1) := by decide +kernel
theorem d_RN_whenGiven_152 : decode b_RN_whenGiven 152 = .ok (.iadd, 1) := by decide +kernel
theorem d_RN_whenGiven_153 : decode b_RN_whenGiven 153 = .ok (.putfield 63, 3) := by decide +kernel
theorem d_RN_whenGiven_156 : decode b_RN_whenGiven 156 = .ok (.iconst (0), 1) := by decide +kernel
theorem d_RN_whenGiven_157 : decode b_RN_whenGiven 157 = .ok (.ireturn, 1) := by decide +kernel
theorem d_RN_whenGiven_158 : decode b_RN_whenGiven 158 = .ok (.aload_n 1, 1) := by decide +kernel
theorem d_RN_whenGiven_159 : decode b_RN_whenGiven 159 = .ok (.dup, 1) := by decide +kernel
theorem d_RN_whenGiven_160 : decode b_RN_whenGiven 160 = .ok (.getfield 63, 3) := by decide +kernel
theorem d_RN_whenGiven_163 : decode b_RN_whenGiven 163 = .ok (.aload_n 0, 1) := by decide +kernel
theorem d_RN_whenGiven_164 : decode b_RN_whenGiven 164 = .ok (.aload_n 1, 1) := by decide +kernel
theorem d_RN_whenGiven_165 : decode b_RN_whenGiven 165 = .ok (.iconst (1), 1) := by decide +kernel
theorem d_RN_whenGiven_166 : decode b_RN_whenGiven 166 = .ok (.invokevirtual 115, 3) := by decide +kernel
theorem d_RN_whenGiven_169 : decode b_RN_whenGiven 169 = .ok (.iadd, 1) := by decide +kernel
theorem d_RN_whenGiven_170 : decode b_RN_whenGiven 170 = .ok (.putfield 63, 3) := by decide +kernel
theorem d_RN_whenGiven_173 : decode b_RN_whenGiven 173 = .ok (.iconst (0), 1) := by decide +kernel
theorem d_RN_whenGiven_174 : decode b_RN_whenGiven 174 = .ok (.ireturn, 1) := by decide +kernel
theorem d_RN_whenGiven_175 : decode b_RN_whenGiven 175 = .ok (.aload_n 0, 1) := by decide +kernel
theorem d_RN_whenGiven_176 : decode b_RN_whenGiven 176 = .ok (.aload_n 1, 1) := by decide +kernel
theorem d_RN_whenGiven_177 : decode b_RN_whenGiven 177 = .ok (.aload_n 0, 1) := by decide +kernel
theorem d_RN_whenGiven_178 : decode b_RN_whenGiven 178 = .ok (.aload_n 1, 1) := by decide +kernel
theorem d_RN_whenGiven_179 : decode b_RN_whenGiven 179 = .ok (.iconst (1), 1) := by decide +kernel
theorem d_RN_whenGiven_180 : decode b_RN_whenGiven 180 = .ok (.invokevirtual 115, 3) := by decide +kernel
theorem d_RN_whenGiven_183 : decode b_RN_whenGiven 183 = .ok (.invokevirtual 138, 3) := by decide +kernel
theorem d_RN_whenGiven_186 : decode b_RN_whenGiven 186 = .ok (.ireturn, 1) := by decide +kernel
theorem d_RN_whenGiven_187 : decode b_RN_whenGiven 187 = .ok (.iconst (2), 1) := by decide +kernel
theorem d_RN_whenGiven_188 : decode b_RN_whenGiven 188 = .ok (.ireturn, 1) := by decide +kernel
theorem s_RN_whenGiven_0 {E : mm_E} {Γ : mm_G} {lev kc ks ca sa : Nat} {w : mm_W} {f : mm_F} (h : mm_ok E Γ b_RN_whenGiven 2 "PlannedTables$Run" lev kc ks) (hw : mm_sh w) {n0 : Nat} (hn0 : mm_run w n0) {s1 : Nat} (hs1 : s1 < 39) (k0 : (f (56 + 2 * s1) 0) = 3 → mm_go E Γ 2 52 [(0, mm_rf E n0), (1, mm_rf E (56 + 2 * s1))] [] w f ca sa) (k1 : ¬ (f (56 + 2 * s1) 0) = 3 → (f (56 + 2 * s1) 0) = 4 → mm_go E Γ 2 82 [(0, mm_rf E n0), (1, mm_rf E (56 + 2 * s1))] [] w f ca sa) (k2 : ¬ (f (56 + 2 * s1) 0) = 3 → ¬ (f (56 + 2 * s1) 0) = 4 → (f (56 + 2 * s1) 0) = 5 → mm_go E Γ 2 89 [(0, mm_rf E n0), (1, mm_rf E (56 + 2 * s1))] [] w f ca sa) (k3 : ¬ (f (56 + 2 * s1) 0) = 3 → ¬ (f (56 + 2 * s1) 0) = 4 → ¬ (f (56 + 2 * s1) 0) = 5 → (f (56 + 2 * s1) 0) = 6 → mm_go E Γ 2 128 [(0, mm_rf E n0), (1, mm_rf E (56 + 2 * s1))] [] w f ca sa) (k4 : ¬ (f (56 + 2 * s1) 0) = 3 → ¬ (f (56 + 2 * s1) 0) = 4 → ¬ (f (56 + 2 * s1) 0) = 5 → ¬ (f (56 + 2 * s1) 0) = 6 → (f (56 + 2 * s1) 0) = 7 → mm_go E Γ 2 134 [(0, mm_rf E n0), (1, mm_rf E (56 + 2 * s1))] [] w f ca sa) (k5 : ¬ (f (56 + 2 * s1) 0) = 3 → ¬ (f (56 + 2 * s1) 0) = 4 → ¬ (f (56 + 2 * s1) 0) = 5 → ¬ (f (56 + 2 * s1) 0) = 6 → ¬ (f (56 + 2 * s1) 0) = 7 → (f (56 + 2 * s1) 0) = 8 → mm_go E Γ 2 146 [(0, mm_rf E n0), (1, mm_rf E (56 + 2 * s1))] [] w f ca sa) (k6 : ¬ (f (56 + 2 * s1) 0) = 3 → ¬ (f (56 + 2 * s1) 0) = 4 → ¬ (f (56 + 2 * s1) 0) = 5 → ¬ (f (56 + 2 * s1) 0) = 6 → ¬ (f (56 + 2 * s1) 0) = 7 → ¬ (f (56 + 2 * s1) 0) = 8 → (f (56 + 2 * s1) 0) = 9 → mm_go E Γ 2 158 [(0, mm_rf E n0), (1, mm_rf E (56 + 2 * s1))] [] w f ca sa) (k7 : ¬ (f (56 + 2 * s1) 0) = 3 → ¬ (f (56 + 2 * s1) 0) = 4 → ¬ (f (56 + 2 * s1) 0) = 5 → ¬ (f (56 + 2 * s1) 0) = 6 → ¬ (f (56 + 2 * s1) 0) = 7 → ¬ (f (56 + 2 * s1) 0) = 8 → ¬ (f (56 + 2 * s1) 0) = 9 → (f (56 + 2 * s1) 0) = 10 → mm_go E Γ 2 175 [(0, mm_rf E n0), (1, mm_rf E (56 + 2 * s1))] [] w f ca sa) (k8 : ¬ (f (56 + 2 * s1) 0) = 3 → ¬ (f (56 + 2 * s1) 0) = 4 → ¬ (f (56 + 2 * s1) 0) = 5 → ¬ (f (56 + 2 * s1) 0) = 6 → ¬ (f (56 + 2 * s1) 0) = 7 → ¬ (f (56 + 2 * s1) 0) = 8 → ¬ (f (56 + 2 * s1) 0) = 9 → ¬ (f (56 + 2 * s1) 0) = 10 → mm_go E Γ 2 187 [(0, mm_rf E n0), (1, mm_rf E (56 + 2 * s1))] [] w f ca sa) : mm_go E Γ 2 0 [(0, mm_rf E n0), (1, mm_rf E (56 + 2 * s1))] [] w f ca sa := by
  refine mm_aload_n h d_RN_whenGiven_0 1 rfl rfl ?_
  refine mm_geti h fl_RN_72 rfl (is_S hw hs1) d_RN_whenGiven_1 ?_
  by_cases c1 : (f (56 + 2 * s1) 0) = 3
  · refine mm_tin h d_RN_whenGiven_4 (by rw [c1]; decide) (by rw [c1]; decide) (off := 48) (by rw [c1]; rfl) (tgt := 52) (by decide) ?_
    exact (k0 c1)
  by_cases c2 : (f (56 + 2 * s1) 0) = 4
  · refine mm_tin h d_RN_whenGiven_4 (by rw [c2]; decide) (by rw [c2]; decide) (off := 78) (by rw [c2]; rfl) (tgt := 82) (by decide) ?_
    exact (k1 c1 c2)
  by_cases c3 : (f (56 + 2 * s1) 0) = 5
  · refine mm_tin h d_RN_whenGiven_4 (by rw [c3]; decide) (by rw [c3]; decide) (off := 85) (by rw [c3]; rfl) (tgt := 89) (by decide) ?_
    exact (k2 c1 c2 c3)
  by_cases c4 : (f (56 + 2 * s1) 0) = 6
  · refine mm_tin h d_RN_whenGiven_4 (by rw [c4]; decide) (by rw [c4]; decide) (off := 124) (by rw [c4]; rfl) (tgt := 128) (by decide) ?_
    exact (k3 c1 c2 c3 c4)
  by_cases c5 : (f (56 + 2 * s1) 0) = 7
  · refine mm_tin h d_RN_whenGiven_4 (by rw [c5]; decide) (by rw [c5]; decide) (off := 130) (by rw [c5]; rfl) (tgt := 134) (by decide) ?_
    exact (k4 c1 c2 c3 c4 c5)
  by_cases c6 : (f (56 + 2 * s1) 0) = 8
  · refine mm_tin h d_RN_whenGiven_4 (by rw [c6]; decide) (by rw [c6]; decide) (off := 142) (by rw [c6]; rfl) (tgt := 146) (by decide) ?_
    exact (k5 c1 c2 c3 c4 c5 c6)
  by_cases c7 : (f (56 + 2 * s1) 0) = 9
  · refine mm_tin h d_RN_whenGiven_4 (by rw [c7]; decide) (by rw [c7]; decide) (off := 154) (by rw [c7]; rfl) (tgt := 158) (by decide) ?_
    exact (k6 c1 c2 c3 c4 c5 c6 c7)
  by_cases c8 : (f (56 + 2 * s1) 0) = 10
  · refine mm_tin h d_RN_whenGiven_4 (by rw [c8]; decide) (by rw [c8]; decide) (off := 171) (by rw [c8]; rfl) (tgt := 175) (by decide) ?_
    exact (k7 c1 c2 c3 c4 c5 c6 c7 c8)
  refine mm_tout h d_RN_whenGiven_4 (by have q0 := mm_ne 3 3 (by decide) c1; have q1 := mm_ne 4 4 (by decide) c2; have q2 := mm_ne 5 5 (by decide) c3; have q3 := mm_ne 6 6 (by decide) c4; have q4 := mm_ne 7 7 (by decide) c5; have q5 := mm_ne 8 8 (by decide) c6; have q6 := mm_ne 9 9 (by decide) c7; have q7 := mm_ne 10 10 (by decide) c8; omega) (tgt := 187) (by decide) ?_
  exact (k8 c1 c2 c3 c4 c5 c6 c7 c8)
theorem s_RN_whenGiven_52 {E : mm_E} {Γ : mm_G} {lev kc ks ca sa : Nat} {w : mm_W} {f : mm_F} (h : mm_ok E Γ b_RN_whenGiven 2 "PlannedTables$Run" lev kc ks) (hw : mm_sh w) {n0 : Nat} (hn0 : mm_run w n0) {s1 : Nat} (hs1 : s1 < 39) {vl0 vc0 vs0 : Nat} {P0 : Option Value → mm_W → mm_F → Prop} (hl0 : vl0 < lev) (hu0 : ca + vc0 ≤ kc) (hz0 : sa + vs0 ≤ ks) (m0 : mm_C E y_RN_cellOf b_RN_cellOf 3 (some .int) vl0 vc0 vs0 [mm_rf E n0, mm_rf E (56 + 2 * s1), .int 1] w f P0) (k1 : ∀ (r : Option Value) (w1 : mm_W) (f1 : mm_F), P0 r w1 f1 → mm_go E Γ 2 58 [(0, mm_rf E n0), (1, mm_rf E (56 + 2 * s1))] (r.toList ++ []) w1 f1 (ca + vc0) (sa + vs0)) : mm_go E Γ 2 52 [(0, mm_rf E n0), (1, mm_rf E (56 + 2 * s1))] [] w f ca sa := by
  refine mm_aload_n h d_RN_whenGiven_52 0 rfl rfl ?_
  refine mm_aload_n h d_RN_whenGiven_53 1 rfl rfl ?_
  refine mm_iconst (v := 1) h d_RN_whenGiven_54 (by decide) ?_
  exact mm_callV (As := [mm_rf E (56 + 2 * s1), .int 1]) (rest := []) h m0 cv_RN_115 cm_RN_cellOf hl0 (q0 := _) rfl rfl hn0.2.1 hu0 hz0 rfl rfl (Nat.le_of_ble_eq_true rfl) d_RN_whenGiven_55 (fun r w1 f1 hp => k1 r w1 f1 hp)
theorem s_RN_whenGiven_58 {E : mm_E} {Γ : mm_G} {lev kc ks ca sa : Nat} {w : mm_W} {f : mm_F} (h : mm_ok E Γ b_RN_whenGiven 2 "PlannedTables$Run" lev kc ks) (hw : mm_sh w) {n0 : Nat} (hn0 : mm_run w n0) {s1 : Nat} (hs1 : s1 < 39) {xk0 : Int32} {vl0 vc0 vs0 : Nat} {P0 : Option Value → mm_W → mm_F → Prop} (hl0 : vl0 < lev) (hu0 : ca + vc0 ≤ kc) (hz0 : sa + vs0 ≤ ks) (m0 : mm_C E y_RN_wordOf b_RN_wordOf 3 (some .int) vl0 vc0 vs0 [mm_rf E n0, mm_rf E (56 + 2 * s1), .int 2] w f P0) (k1 : ∀ (r : Option Value) (w1 : mm_W) (f1 : mm_F), P0 r w1 f1 → mm_go E Γ 2 64 [(0, mm_rf E n0), (1, mm_rf E (56 + 2 * s1))] (r.toList ++ [.int xk0]) w1 f1 (ca + vc0) (sa + vs0)) : mm_go E Γ 2 58 [(0, mm_rf E n0), (1, mm_rf E (56 + 2 * s1))] [.int xk0] w f ca sa := by
  refine mm_aload_n h d_RN_whenGiven_58 0 rfl rfl ?_
  refine mm_aload_n h d_RN_whenGiven_59 1 rfl rfl ?_
  refine mm_iconst (v := 2) h d_RN_whenGiven_60 (by decide) ?_
  exact mm_callV (As := [mm_rf E (56 + 2 * s1), .int 2]) (rest := [.int xk0]) h m0 cv_RN_75 cm_RN_wordOf hl0 (q0 := _) rfl rfl hn0.2.1 hu0 hz0 rfl rfl (Nat.le_of_ble_eq_true rfl) d_RN_whenGiven_61 (fun r w1 f1 hp => k1 r w1 f1 hp)
theorem s_RN_whenGiven_64 {E : mm_E} {Γ : mm_G} {lev kc ks ca sa : Nat} {w : mm_W} {f : mm_F} (h : mm_ok E Γ b_RN_whenGiven 2 "PlannedTables$Run" lev kc ks) (hw : mm_sh w) {n0 : Nat} (hn0 : mm_run w n0) {s1 : Nat} (hs1 : s1 < 39) {xk0 : Int32} {xk1 : Int32} {vl0 vc0 vs0 : Nat} {P0 : Option Value → mm_W → mm_F → Prop} (hl0 : vl0 < lev) (hu0 : ca + vc0 ≤ kc) (hz0 : sa + vs0 ≤ ks) (m0 : mm_C E y_RN_wordOf b_RN_wordOf 3 (some .int) vl0 vc0 vs0 [mm_rf E n0, mm_rf E (56 + 2 * s1), .int 3] w f P0) (k1 : ∀ (r : Option Value) (w1 : mm_W) (f1 : mm_F), P0 r w1 f1 → mm_go E Γ 2 70 [(0, mm_rf E n0), (1, mm_rf E (56 + 2 * s1))] (r.toList ++ [.int xk1, .int xk0]) w1 f1 (ca + vc0) (sa + vs0)) : mm_go E Γ 2 64 [(0, mm_rf E n0), (1, mm_rf E (56 + 2 * s1))] [.int xk1, .int xk0] w f ca sa := by
  refine mm_aload_n h d_RN_whenGiven_64 0 rfl rfl ?_
  refine mm_aload_n h d_RN_whenGiven_65 1 rfl rfl ?_
  refine mm_iconst (v := 3) h d_RN_whenGiven_66 (by decide) ?_
  exact mm_callV (As := [mm_rf E (56 + 2 * s1), .int 3]) (rest := [.int xk1, .int xk0]) h m0 cv_RN_75 cm_RN_wordOf hl0 (q0 := _) rfl rfl hn0.2.1 hu0 hz0 rfl rfl (Nat.le_of_ble_eq_true rfl) d_RN_whenGiven_67 (fun r w1 f1 hp => k1 r w1 f1 hp)
theorem s_RN_whenGiven_70 {E : mm_E} {Γ : mm_G} {lev kc ks ca sa : Nat} {w : mm_W} {f : mm_F} (h : mm_ok E Γ b_RN_whenGiven 2 "PlannedTables$Run" lev kc ks) (hw : mm_sh w) {n0 : Nat} (hn0 : mm_run w n0) {s1 : Nat} (hs1 : s1 < 39) {xk0 : Int32} {xk1 : Int32} {xk2 : Int32} {vl0 vc0 vs0 : Nat} {P0 : Option Value → mm_W → mm_F → Prop} (hl0 : vl0 < lev) (hu0 : ca + vc0 ≤ kc) (hz0 : sa + vs0 ≤ ks) (m0 : mm_C E y_RN_holds b_RN_holds 3 (some .boolean) vl0 vc0 vs0 [.int xk0, .int xk1, .int xk2] w f P0) (k1 : ∀ (r : Option Value) (w1 : mm_W) (f1 : mm_F), P0 r w1 f1 → mm_go E Γ 2 73 [(0, mm_rf E n0), (1, mm_rf E (56 + 2 * s1))] (r.toList ++ []) w1 f1 (ca + vc0) (sa + vs0)) : mm_go E Γ 2 70 [(0, mm_rf E n0), (1, mm_rf E (56 + 2 * s1))] [.int xk2, .int xk1, .int xk0] w f ca sa := by
  exact mm_callS (As := [.int xk0, .int xk1, .int xk2]) (rest := []) h m0 cs_RN_118 ct_RN_holds cm_RN_holds hl0 hu0 hz0 rfl rfl (Nat.le_of_ble_eq_true rfl) d_RN_whenGiven_70 (fun r w1 f1 hp => k1 r w1 f1 hp)
theorem s_RN_whenGiven_73 {E : mm_E} {Γ : mm_G} {lev kc ks ca sa : Nat} {w : mm_W} {f : mm_F} (h : mm_ok E Γ b_RN_whenGiven 2 "PlannedTables$Run" lev kc ks) (hw : mm_sh w) {n0 : Nat} (hn0 : mm_run w n0) {s1 : Nat} (hs1 : s1 < 39) {xk0 : Int32} (k0 : xk0 = 0 → mm_go E Γ 2 81 [(0, mm_rf E n0), (1, mm_rf E (56 + 2 * s1))] [.int 0] w f ca sa) (k1 : ¬ xk0 = 0 → mm_go E Γ 2 81 [(0, mm_rf E n0), (1, mm_rf E (56 + 2 * s1))] [.int 1] w f ca sa) : mm_go E Γ 2 73 [(0, mm_rf E n0), (1, mm_rf E (56 + 2 * s1))] [.int xk0] w f ca sa := by
  refine mm_if_eq h d_RN_whenGiven_73 (tgt := 80) (by decide) (fun c1 => ?_) (fun c1 => ?_)
  · skip
    refine mm_iconst (v := 0) h d_RN_whenGiven_80 (by decide) ?_
    exact (k0 c1)
  · skip
    refine mm_iconst (v := 1) h d_RN_whenGiven_76 (by decide) ?_
    refine mm_goto h d_RN_whenGiven_77 (tgt := 81) (by decide) ?_
    exact (k1 c1)
theorem s_RN_whenGiven_81 {E : mm_E} {Γ : mm_G} {lev kc ks ca sa : Nat} {w : mm_W} {f : mm_F} {Post : Option Value → mm_W → mm_F → Prop} (h : mm_ok E Γ b_RN_whenGiven 2 "PlannedTables$Run" lev kc ks) (he : mm_end E Γ (some .int) kc ks Post y_RN_whenGiven.name) (hca : ca ≤ kc) (hsa : sa ≤ ks) (hw : mm_sh w) {n0 : Nat} (hn0 : mm_run w n0) {s1 : Nat} (hs1 : s1 < 39) {xk0 : Int32} (k0 : Post (some (.int xk0)) w f) : mm_go E Γ 2 81 [(0, mm_rf E n0), (1, mm_rf E (56 + 2 * s1))] [.int xk0] w f ca sa := by
  exact mm_iret h he rfl d_RN_whenGiven_81 hca hsa k0
theorem s_RN_whenGiven_82 {E : mm_E} {Γ : mm_G} {lev kc ks ca sa : Nat} {w : mm_W} {f : mm_F} (h : mm_ok E Γ b_RN_whenGiven 2 "PlannedTables$Run" lev kc ks) (hw : mm_sh w) {n0 : Nat} (hn0 : mm_run w n0) {s1 : Nat} (hs1 : s1 < 39) {vl0 vc0 vs0 : Nat} {P0 : Option Value → mm_W → mm_F → Prop} (hl0 : vl0 < lev) (hu0 : ca + vc0 ≤ kc) (hz0 : sa + vs0 ≤ ks) (m0 : mm_C E y_RN_pick b_RN_pick 4 none vl0 vc0 vs0 [mm_rf E n0, mm_rf E (56 + 2 * s1)] w f P0) (k1 : ∀ (r : Option Value) (w1 : mm_W) (f1 : mm_F), P0 r w1 f1 → mm_go E Γ 2 87 [(0, mm_rf E n0), (1, mm_rf E (56 + 2 * s1))] (r.toList ++ []) w1 f1 (ca + vc0) (sa + vs0)) : mm_go E Γ 2 82 [(0, mm_rf E n0), (1, mm_rf E (56 + 2 * s1))] [] w f ca sa := by
  refine mm_aload_n h d_RN_whenGiven_82 0 rfl rfl ?_
  refine mm_aload_n h d_RN_whenGiven_83 1 rfl rfl ?_
  exact mm_callV (As := [mm_rf E (56 + 2 * s1)]) (rest := []) h m0 cv_RN_122 cm_RN_pick hl0 (q0 := _) rfl rfl hn0.2.1 hu0 hz0 rfl rfl (Nat.le_of_ble_eq_true rfl) d_RN_whenGiven_84 (fun r w1 f1 hp => k1 r w1 f1 hp)
theorem s_RN_whenGiven_87 {E : mm_E} {Γ : mm_G} {lev kc ks ca sa : Nat} {w : mm_W} {f : mm_F} {Post : Option Value → mm_W → mm_F → Prop} (h : mm_ok E Γ b_RN_whenGiven 2 "PlannedTables$Run" lev kc ks) (he : mm_end E Γ (some .int) kc ks Post y_RN_whenGiven.name) (hca : ca ≤ kc) (hsa : sa ≤ ks) (hw : mm_sh w) {n0 : Nat} (hn0 : mm_run w n0) {s1 : Nat} (hs1 : s1 < 39) (k0 : Post (some (.int 1)) w f) : mm_go E Γ 2 87 [(0, mm_rf E n0), (1, mm_rf E (56 + 2 * s1))] [] w f ca sa := by
  refine mm_iconst (v := 1) h d_RN_whenGiven_87 (by decide) ?_
  exact mm_iret h he rfl d_RN_whenGiven_88 hca hsa k0
theorem s_RN_whenGiven_89 {E : mm_E} {Γ : mm_G} {lev kc ks ca sa : Nat} {w : mm_W} {f : mm_F} (h : mm_ok E Γ b_RN_whenGiven 2 "PlannedTables$Run" lev kc ks) (hw : mm_sh w) {n0 : Nat} (hn0 : mm_run w n0) {s1 : Nat} (hs1 : s1 < 39) {vl0 vc0 vs0 : Nat} {P0 : Option Value → mm_W → mm_F → Prop} (hl0 : vl0 < lev) (hu0 : ca + vc0 ≤ kc) (hz0 : sa + vs0 ≤ ks) (m0 : mm_C E y_RN_copyCells b_RN_copyCells 4 none vl0 vc0 vs0 [mm_rf E (n0 + 1), mm_rf E (57 + 2 * s1), .int (f (56 + 2 * s1) 2)] w f P0) (k1 : ∀ (r : Option Value) (w1 : mm_W) (f1 : mm_F), P0 r w1 f1 → mm_go E Γ 2 104 [(0, mm_rf E n0), (1, mm_rf E (56 + 2 * s1))] (r.toList ++ []) w1 f1 (ca + vc0) (sa + vs0)) : mm_go E Γ 2 89 [(0, mm_rf E n0), (1, mm_rf E (56 + 2 * s1))] [] w f ca sa := by
  refine mm_aload_n h d_RN_whenGiven_89 0 rfl rfl ?_
  refine mm_getr h fl_RN_9 rfl hn0.2.1 hn0.2.2.2.2.2.1 hn0.2.2.2.2.2.2.1.1 d_RN_whenGiven_90 ?_
  refine mm_aload_n h d_RN_whenGiven_93 1 rfl rfl ?_
  refine mm_getr h fl_RN_125 rfl (is_S hw hs1) (rf_S_kept hw hs1) (is_SK hw hs1).1.1 d_RN_whenGiven_94 ?_
  refine mm_aload_n h d_RN_whenGiven_97 1 rfl rfl ?_
  refine mm_geti h fl_RN_128 rfl (is_S hw hs1) d_RN_whenGiven_98 ?_
  exact mm_callS (As := [mm_rf E (n0 + 1), mm_rf E (57 + 2 * s1), .int (f (56 + 2 * s1) 2)]) (rest := []) h m0 cs_RN_131 ct_RN_copyCells cm_RN_copyCells hl0 hu0 hz0 rfl rfl (Nat.le_of_ble_eq_true rfl) d_RN_whenGiven_101 (fun r w1 f1 hp => k1 r w1 f1 hp)
theorem s_RN_whenGiven_104 {E : mm_E} {Γ : mm_G} {lev kc ks ca sa : Nat} {w : mm_W} {f : mm_F} (h : mm_ok E Γ b_RN_whenGiven 2 "PlannedTables$Run" lev kc ks) (hw : mm_sh w) {n0 : Nat} (hn0 : mm_run w n0) {s1 : Nat} (hs1 : s1 < 39) {vl0 vc0 vs0 : Nat} {P0 : Option Value → mm_W → mm_F → Prop} (hl0 : vl0 < lev) (hu0 : ca + vc0 ≤ kc) (hz0 : sa + vs0 ≤ ks) (m0 : mm_C E y_RN_cellOf b_RN_cellOf 3 (some .int) vl0 vc0 vs0 [mm_rf E n0, mm_rf E (56 + 2 * s1), .int 3] w f P0) (k1 : ∀ (r : Option Value) (w1 : mm_W) (f1 : mm_F), P0 r w1 f1 → mm_go E Γ 2 112 [(0, mm_rf E n0), (1, mm_rf E (56 + 2 * s1))] (r.toList ++ [mm_rf E (56 + 2 * s1), mm_rf E n0]) w1 f1 (ca + vc0) (sa + vs0)) : mm_go E Γ 2 104 [(0, mm_rf E n0), (1, mm_rf E (56 + 2 * s1))] [] w f ca sa := by
  refine mm_aload_n h d_RN_whenGiven_104 0 rfl rfl ?_
  refine mm_aload_n h d_RN_whenGiven_105 1 rfl rfl ?_
  refine mm_aload_n h d_RN_whenGiven_106 0 rfl rfl ?_
  refine mm_aload_n h d_RN_whenGiven_107 1 rfl rfl ?_
  refine mm_iconst (v := 3) h d_RN_whenGiven_108 (by decide) ?_
  exact mm_callV (As := [mm_rf E (56 + 2 * s1), .int 3]) (rest := [mm_rf E (56 + 2 * s1), mm_rf E n0]) h m0 cv_RN_115 cm_RN_cellOf hl0 (q0 := _) rfl rfl hn0.2.1 hu0 hz0 rfl rfl (Nat.le_of_ble_eq_true rfl) d_RN_whenGiven_109 (fun r w1 f1 hp => k1 r w1 f1 hp)
theorem s_RN_whenGiven_112 {E : mm_E} {Γ : mm_G} {lev kc ks ca sa : Nat} {w : mm_W} {f : mm_F} (h : mm_ok E Γ b_RN_whenGiven 2 "PlannedTables$Run" lev kc ks) (hw : mm_sh w) {n0 : Nat} (hn0 : mm_run w n0) {s1 : Nat} (hs1 : s1 < 39) {nk0 : Nat} (hnk0 : mm_run w nk0) {sk1 : Nat} (hsk1 : sk1 < 39) {xk2 : Int32} {vl0 vc0 vs0 : Nat} {P0 : Option Value → mm_W → mm_F → Prop} (hl0 : vl0 < lev) (hu0 : ca + vc0 ≤ kc) (hz0 : sa + vs0 ≤ ks) (m0 : mm_C E y_RN_cellOf b_RN_cellOf 3 (some .int) vl0 vc0 vs0 [mm_rf E n0, mm_rf E (56 + 2 * s1), .int 3] w f P0) (k1 : ∀ (r : Option Value) (w1 : mm_W) (f1 : mm_F), P0 r w1 f1 → mm_go E Γ 2 118 [(0, mm_rf E n0), (1, mm_rf E (56 + 2 * s1))] (r.toList ++ [.int xk2, mm_rf E (56 + 2 * sk1), mm_rf E nk0]) w1 f1 (ca + vc0) (sa + vs0)) : mm_go E Γ 2 112 [(0, mm_rf E n0), (1, mm_rf E (56 + 2 * s1))] [.int xk2, mm_rf E (56 + 2 * sk1), mm_rf E nk0] w f ca sa := by
  refine mm_aload_n h d_RN_whenGiven_112 0 rfl rfl ?_
  refine mm_aload_n h d_RN_whenGiven_113 1 rfl rfl ?_
  refine mm_iconst (v := 3) h d_RN_whenGiven_114 (by decide) ?_
  exact mm_callV (As := [mm_rf E (56 + 2 * s1), .int 3]) (rest := [.int xk2, mm_rf E (56 + 2 * sk1), mm_rf E nk0]) h m0 cv_RN_115 cm_RN_cellOf hl0 (q0 := _) rfl rfl hn0.2.1 hu0 hz0 rfl rfl (Nat.le_of_ble_eq_true rfl) d_RN_whenGiven_115 (fun r w1 f1 hp => k1 r w1 f1 hp)
theorem s_RN_whenGiven_118 {E : mm_E} {Γ : mm_G} {lev kc ks ca sa : Nat} {w : mm_W} {f : mm_F} (h : mm_ok E Γ b_RN_whenGiven 2 "PlannedTables$Run" lev kc ks) (hw : mm_sh w) {n0 : Nat} (hn0 : mm_run w n0) {s1 : Nat} (hs1 : s1 < 39) {nk0 : Nat} (hnk0 : mm_run w nk0) {sk1 : Nat} (hsk1 : sk1 < 39) {xk2 : Int32} {xk3 : Int32} {vl0 vc0 vs0 : Nat} {P0 : Option Value → mm_W → mm_F → Prop} (hl0 : vl0 < lev) (hu0 : ca + vc0 ≤ kc) (hz0 : sa + vs0 ≤ ks) (m0 : mm_C E y_RN_beginWalk b_RN_beginWalk 4 none vl0 vc0 vs0 [mm_rf E nk0, mm_rf E (56 + 2 * sk1), .int xk2, .int xk3] w f P0) (k1 : ∀ (r : Option Value) (w1 : mm_W) (f1 : mm_F), P0 r w1 f1 → mm_go E Γ 2 121 [(0, mm_rf E n0), (1, mm_rf E (56 + 2 * s1))] (r.toList ++ []) w1 f1 (ca + vc0) (sa + vs0)) : mm_go E Γ 2 118 [(0, mm_rf E n0), (1, mm_rf E (56 + 2 * s1))] [.int xk3, .int xk2, mm_rf E (56 + 2 * sk1), mm_rf E nk0] w f ca sa := by
  exact mm_callV (As := [mm_rf E (56 + 2 * sk1), .int xk2, .int xk3]) (rest := []) h m0 cv_RN_86 cm_RN_beginWalk hl0 (q0 := _) rfl rfl hnk0.2.1 hu0 hz0 rfl rfl (Nat.le_of_ble_eq_true rfl) d_RN_whenGiven_118 (fun r w1 f1 hp => k1 r w1 f1 hp)
theorem s_RN_whenGiven_121 {E : mm_E} {Γ : mm_G} {lev kc ks ca sa : Nat} {w : mm_W} {f : mm_F} (h : mm_ok E Γ b_RN_whenGiven 2 "PlannedTables$Run" lev kc ks) (hw : mm_sh w) {n0 : Nat} (hn0 : mm_run w n0) {s1 : Nat} (hs1 : s1 < 39) {vl0 vc0 vs0 : Nat} {P0 : Option Value → mm_W → mm_F → Prop} (hl0 : vl0 < lev) (hu0 : ca + vc0 ≤ kc) (hz0 : sa + vs0 ≤ ks) (m0 : mm_C E y_RN_walkOn b_RN_walkOn 4 (some .int) vl0 vc0 vs0 [mm_rf E n0, mm_rf E (56 + 2 * s1), .int 0] w f P0) (k1 : ∀ (r : Option Value) (w1 : mm_W) (f1 : mm_F), P0 r w1 f1 → mm_go E Γ 2 127 [(0, mm_rf E n0), (1, mm_rf E (56 + 2 * s1))] (r.toList ++ []) w1 f1 (ca + vc0) (sa + vs0)) : mm_go E Γ 2 121 [(0, mm_rf E n0), (1, mm_rf E (56 + 2 * s1))] [] w f ca sa := by
  refine mm_aload_n h d_RN_whenGiven_121 0 rfl rfl ?_
  refine mm_aload_n h d_RN_whenGiven_122 1 rfl rfl ?_
  refine mm_iconst (v := 0) h d_RN_whenGiven_123 (by decide) ?_
  exact mm_callV (As := [mm_rf E (56 + 2 * s1), .int 0]) (rest := []) h m0 cv_RN_112 cm_RN_walkOn hl0 (q0 := _) rfl rfl hn0.2.1 hu0 hz0 rfl rfl (Nat.le_of_ble_eq_true rfl) d_RN_whenGiven_124 (fun r w1 f1 hp => k1 r w1 f1 hp)
theorem s_RN_whenGiven_127 {E : mm_E} {Γ : mm_G} {lev kc ks ca sa : Nat} {w : mm_W} {f : mm_F} {Post : Option Value → mm_W → mm_F → Prop} (h : mm_ok E Γ b_RN_whenGiven 2 "PlannedTables$Run" lev kc ks) (he : mm_end E Γ (some .int) kc ks Post y_RN_whenGiven.name) (hca : ca ≤ kc) (hsa : sa ≤ ks) (hw : mm_sh w) {n0 : Nat} (hn0 : mm_run w n0) {s1 : Nat} (hs1 : s1 < 39) {xk0 : Int32} (k0 : Post (some (.int xk0)) w f) : mm_go E Γ 2 127 [(0, mm_rf E n0), (1, mm_rf E (56 + 2 * s1))] [.int xk0] w f ca sa := by
  exact mm_iret h he rfl d_RN_whenGiven_127 hca hsa k0
theorem s_RN_whenGiven_128 {E : mm_E} {Γ : mm_G} {lev kc ks ca sa : Nat} {w : mm_W} {f : mm_F} (h : mm_ok E Γ b_RN_whenGiven 2 "PlannedTables$Run" lev kc ks) (hw : mm_sh w) {n0 : Nat} (hn0 : mm_run w n0) {s1 : Nat} (hs1 : s1 < 39) {vl0 vc0 vs0 : Nat} {P0 : Option Value → mm_W → mm_F → Prop} (hl0 : vl0 < lev) (hu0 : ca + vc0 ≤ kc) (hz0 : sa + vs0 ≤ ks) (m0 : mm_C E y_RN_skipOrGive b_RN_skipOrGive 2 (some .int) vl0 vc0 vs0 [mm_rf E n0, mm_rf E (56 + 2 * s1)] w f P0) (k1 : ∀ (r : Option Value) (w1 : mm_W) (f1 : mm_F), P0 r w1 f1 → mm_go E Γ 2 133 [(0, mm_rf E n0), (1, mm_rf E (56 + 2 * s1))] (r.toList ++ []) w1 f1 (ca + vc0) (sa + vs0)) : mm_go E Γ 2 128 [(0, mm_rf E n0), (1, mm_rf E (56 + 2 * s1))] [] w f ca sa := by
  refine mm_aload_n h d_RN_whenGiven_128 0 rfl rfl ?_
  refine mm_aload_n h d_RN_whenGiven_129 1 rfl rfl ?_
  exact mm_callV (As := [mm_rf E (56 + 2 * s1)]) (rest := []) h m0 cv_RN_135 cm_RN_skipOrGive hl0 (q0 := _) rfl rfl hn0.2.1 hu0 hz0 rfl rfl (Nat.le_of_ble_eq_true rfl) d_RN_whenGiven_130 (fun r w1 f1 hp => k1 r w1 f1 hp)
theorem s_RN_whenGiven_133 {E : mm_E} {Γ : mm_G} {lev kc ks ca sa : Nat} {w : mm_W} {f : mm_F} {Post : Option Value → mm_W → mm_F → Prop} (h : mm_ok E Γ b_RN_whenGiven 2 "PlannedTables$Run" lev kc ks) (he : mm_end E Γ (some .int) kc ks Post y_RN_whenGiven.name) (hca : ca ≤ kc) (hsa : sa ≤ ks) (hw : mm_sh w) {n0 : Nat} (hn0 : mm_run w n0) {s1 : Nat} (hs1 : s1 < 39) {xk0 : Int32} (k0 : Post (some (.int xk0)) w f) : mm_go E Γ 2 133 [(0, mm_rf E n0), (1, mm_rf E (56 + 2 * s1))] [.int xk0] w f ca sa := by
  exact mm_iret h he rfl d_RN_whenGiven_133 hca hsa k0
theorem s_RN_whenGiven_134 {E : mm_E} {Γ : mm_G} {lev kc ks ca sa : Nat} {w : mm_W} {f : mm_F} {Post : Option Value → mm_W → mm_F → Prop} (h : mm_ok E Γ b_RN_whenGiven 2 "PlannedTables$Run" lev kc ks) (he : mm_end E Γ (some .int) kc ks Post y_RN_whenGiven.name) (hca : ca ≤ kc) (hsa : sa ≤ ks) (hw : mm_sh w) {n0 : Nat} (hn0 : mm_run w n0) {s1 : Nat} (hs1 : s1 < 39) (k0 : Post (some (.int 1)) w (mm_up f (56 + 2 * s1) 7 ((f (56 + 2 * s1) 7) - 1))) : mm_go E Γ 2 134 [(0, mm_rf E n0), (1, mm_rf E (56 + 2 * s1))] [] w f ca sa := by
  refine mm_aload_n h d_RN_whenGiven_134 1 rfl rfl ?_
  refine mm_dup h d_RN_whenGiven_135 rfl ?_
  refine mm_geti h fl_RN_63 rfl (is_S hw hs1) d_RN_whenGiven_136 ?_
  refine mm_iconst (v := 1) h d_RN_whenGiven_139 (by decide) ?_
  refine mm_isub h d_RN_whenGiven_140 ?_
  refine mm_puti h fl_RN_63 (Or.inl rfl) rfl rfl rfl (is_S hw hs1) d_RN_whenGiven_141 ?_
  refine mm_iconst (v := 1) h d_RN_whenGiven_144 (by decide) ?_
  exact mm_iret h he rfl d_RN_whenGiven_145 hca hsa k0
theorem s_RN_whenGiven_146 {E : mm_E} {Γ : mm_G} {lev kc ks ca sa : Nat} {w : mm_W} {f : mm_F} {Post : Option Value → mm_W → mm_F → Prop} (h : mm_ok E Γ b_RN_whenGiven 2 "PlannedTables$Run" lev kc ks) (he : mm_end E Γ (some .int) kc ks Post y_RN_whenGiven.name) (hca : ca ≤ kc) (hsa : sa ≤ ks) (hw : mm_sh w) {n0 : Nat} (hn0 : mm_run w n0) {s1 : Nat} (hs1 : s1 < 39) (k0 : Post (some (.int 0)) w (mm_up f (56 + 2 * s1) 7 ((f (56 + 2 * s1) 7) + 1))) : mm_go E Γ 2 146 [(0, mm_rf E n0), (1, mm_rf E (56 + 2 * s1))] [] w f ca sa := by
  refine mm_aload_n h d_RN_whenGiven_146 1 rfl rfl ?_
  refine mm_dup h d_RN_whenGiven_147 rfl ?_
  refine mm_geti h fl_RN_63 rfl (is_S hw hs1) d_RN_whenGiven_148 ?_
  refine mm_iconst (v := 1) h d_RN_whenGiven_151 (by decide) ?_
  refine mm_iadd h d_RN_whenGiven_152 ?_
  refine mm_puti h fl_RN_63 (Or.inl rfl) rfl rfl rfl (is_S hw hs1) d_RN_whenGiven_153 ?_
  refine mm_iconst (v := 0) h d_RN_whenGiven_156 (by decide) ?_
  exact mm_iret h he rfl d_RN_whenGiven_157 hca hsa k0
theorem s_RN_whenGiven_158 {E : mm_E} {Γ : mm_G} {lev kc ks ca sa : Nat} {w : mm_W} {f : mm_F} (h : mm_ok E Γ b_RN_whenGiven 2 "PlannedTables$Run" lev kc ks) (hw : mm_sh w) {n0 : Nat} (hn0 : mm_run w n0) {s1 : Nat} (hs1 : s1 < 39) {vl0 vc0 vs0 : Nat} {P0 : Option Value → mm_W → mm_F → Prop} (hl0 : vl0 < lev) (hu0 : ca + vc0 ≤ kc) (hz0 : sa + vs0 ≤ ks) (m0 : mm_C E y_RN_cellOf b_RN_cellOf 3 (some .int) vl0 vc0 vs0 [mm_rf E n0, mm_rf E (56 + 2 * s1), .int 1] w f P0) (k1 : ∀ (r : Option Value) (w1 : mm_W) (f1 : mm_F), P0 r w1 f1 → mm_go E Γ 2 169 [(0, mm_rf E n0), (1, mm_rf E (56 + 2 * s1))] (r.toList ++ [.int (f (56 + 2 * s1) 7), mm_rf E (56 + 2 * s1)]) w1 f1 (ca + vc0) (sa + vs0)) : mm_go E Γ 2 158 [(0, mm_rf E n0), (1, mm_rf E (56 + 2 * s1))] [] w f ca sa := by
  refine mm_aload_n h d_RN_whenGiven_158 1 rfl rfl ?_
  refine mm_dup h d_RN_whenGiven_159 rfl ?_
  refine mm_geti h fl_RN_63 rfl (is_S hw hs1) d_RN_whenGiven_160 ?_
  refine mm_aload_n h d_RN_whenGiven_163 0 rfl rfl ?_
  refine mm_aload_n h d_RN_whenGiven_164 1 rfl rfl ?_
  refine mm_iconst (v := 1) h d_RN_whenGiven_165 (by decide) ?_
  exact mm_callV (As := [mm_rf E (56 + 2 * s1), .int 1]) (rest := [.int (f (56 + 2 * s1) 7), mm_rf E (56 + 2 * s1)]) h m0 cv_RN_115 cm_RN_cellOf hl0 (q0 := _) rfl rfl hn0.2.1 hu0 hz0 rfl rfl (Nat.le_of_ble_eq_true rfl) d_RN_whenGiven_166 (fun r w1 f1 hp => k1 r w1 f1 hp)
theorem s_RN_whenGiven_169 {E : mm_E} {Γ : mm_G} {lev kc ks ca sa : Nat} {w : mm_W} {f : mm_F} {Post : Option Value → mm_W → mm_F → Prop} (h : mm_ok E Γ b_RN_whenGiven 2 "PlannedTables$Run" lev kc ks) (he : mm_end E Γ (some .int) kc ks Post y_RN_whenGiven.name) (hca : ca ≤ kc) (hsa : sa ≤ ks) (hw : mm_sh w) {n0 : Nat} (hn0 : mm_run w n0) {s1 : Nat} (hs1 : s1 < 39) {sk0 : Nat} (hsk0 : sk0 < 39) {xk1 : Int32} {xk2 : Int32} (k0 : Post (some (.int 0)) w (mm_up f (56 + 2 * sk0) 7 (xk1 + xk2))) : mm_go E Γ 2 169 [(0, mm_rf E n0), (1, mm_rf E (56 + 2 * s1))] [.int xk2, .int xk1, mm_rf E (56 + 2 * sk0)] w f ca sa := by
  refine mm_iadd h d_RN_whenGiven_169 ?_
  refine mm_puti h fl_RN_63 (Or.inl rfl) rfl rfl rfl (is_S hw hsk0) d_RN_whenGiven_170 ?_
  refine mm_iconst (v := 0) h d_RN_whenGiven_173 (by decide) ?_
  exact mm_iret h he rfl d_RN_whenGiven_174 hca hsa k0
theorem s_RN_whenGiven_175 {E : mm_E} {Γ : mm_G} {lev kc ks ca sa : Nat} {w : mm_W} {f : mm_F} (h : mm_ok E Γ b_RN_whenGiven 2 "PlannedTables$Run" lev kc ks) (hw : mm_sh w) {n0 : Nat} (hn0 : mm_run w n0) {s1 : Nat} (hs1 : s1 < 39) {vl0 vc0 vs0 : Nat} {P0 : Option Value → mm_W → mm_F → Prop} (hl0 : vl0 < lev) (hu0 : ca + vc0 ≤ kc) (hz0 : sa + vs0 ≤ ks) (m0 : mm_C E y_RN_cellOf b_RN_cellOf 3 (some .int) vl0 vc0 vs0 [mm_rf E n0, mm_rf E (56 + 2 * s1), .int 1] w f P0) (k1 : ∀ (r : Option Value) (w1 : mm_W) (f1 : mm_F), P0 r w1 f1 → mm_go E Γ 2 183 [(0, mm_rf E n0), (1, mm_rf E (56 + 2 * s1))] (r.toList ++ [mm_rf E (56 + 2 * s1), mm_rf E n0]) w1 f1 (ca + vc0) (sa + vs0)) : mm_go E Γ 2 175 [(0, mm_rf E n0), (1, mm_rf E (56 + 2 * s1))] [] w f ca sa := by
  refine mm_aload_n h d_RN_whenGiven_175 0 rfl rfl ?_
  refine mm_aload_n h d_RN_whenGiven_176 1 rfl rfl ?_
  refine mm_aload_n h d_RN_whenGiven_177 0 rfl rfl ?_
  refine mm_aload_n h d_RN_whenGiven_178 1 rfl rfl ?_
  refine mm_iconst (v := 1) h d_RN_whenGiven_179 (by decide) ?_
  exact mm_callV (As := [mm_rf E (56 + 2 * s1), .int 1]) (rest := [mm_rf E (56 + 2 * s1), mm_rf E n0]) h m0 cv_RN_115 cm_RN_cellOf hl0 (q0 := _) rfl rfl hn0.2.1 hu0 hz0 rfl rfl (Nat.le_of_ble_eq_true rfl) d_RN_whenGiven_180 (fun r w1 f1 hp => k1 r w1 f1 hp)
theorem s_RN_whenGiven_183 {E : mm_E} {Γ : mm_G} {lev kc ks ca sa : Nat} {w : mm_W} {f : mm_F} (h : mm_ok E Γ b_RN_whenGiven 2 "PlannedTables$Run" lev kc ks) (hw : mm_sh w) {n0 : Nat} (hn0 : mm_run w n0) {s1 : Nat} (hs1 : s1 < 39) {nk0 : Nat} (hnk0 : mm_run w nk0) {sk1 : Nat} (hsk1 : sk1 < 39) {xk2 : Int32} {vl0 vc0 vs0 : Nat} {P0 : Option Value → mm_W → mm_F → Prop} (hl0 : vl0 < lev) (hu0 : ca + vc0 ≤ kc) (hz0 : sa + vs0 ≤ ks) (m0 : mm_C E y_RN_addToGroup b_RN_addToGroup 3 (some .int) vl0 vc0 vs0 [mm_rf E nk0, mm_rf E (56 + 2 * sk1), .int xk2] w f P0) (k1 : ∀ (r : Option Value) (w1 : mm_W) (f1 : mm_F), P0 r w1 f1 → mm_go E Γ 2 186 [(0, mm_rf E n0), (1, mm_rf E (56 + 2 * s1))] (r.toList ++ []) w1 f1 (ca + vc0) (sa + vs0)) : mm_go E Γ 2 183 [(0, mm_rf E n0), (1, mm_rf E (56 + 2 * s1))] [.int xk2, mm_rf E (56 + 2 * sk1), mm_rf E nk0] w f ca sa := by
  exact mm_callV (As := [mm_rf E (56 + 2 * sk1), .int xk2]) (rest := []) h m0 cv_RN_138 cm_RN_addToGroup hl0 (q0 := _) rfl rfl hnk0.2.1 hu0 hz0 rfl rfl (Nat.le_of_ble_eq_true rfl) d_RN_whenGiven_183 (fun r w1 f1 hp => k1 r w1 f1 hp)
theorem s_RN_whenGiven_186 {E : mm_E} {Γ : mm_G} {lev kc ks ca sa : Nat} {w : mm_W} {f : mm_F} {Post : Option Value → mm_W → mm_F → Prop} (h : mm_ok E Γ b_RN_whenGiven 2 "PlannedTables$Run" lev kc ks) (he : mm_end E Γ (some .int) kc ks Post y_RN_whenGiven.name) (hca : ca ≤ kc) (hsa : sa ≤ ks) (hw : mm_sh w) {n0 : Nat} (hn0 : mm_run w n0) {s1 : Nat} (hs1 : s1 < 39) {xk0 : Int32} (k0 : Post (some (.int xk0)) w f) : mm_go E Γ 2 186 [(0, mm_rf E n0), (1, mm_rf E (56 + 2 * s1))] [.int xk0] w f ca sa := by
  exact mm_iret h he rfl d_RN_whenGiven_186 hca hsa k0
theorem s_RN_whenGiven_187 {E : mm_E} {Γ : mm_G} {lev kc ks ca sa : Nat} {w : mm_W} {f : mm_F} {Post : Option Value → mm_W → mm_F → Prop} (h : mm_ok E Γ b_RN_whenGiven 2 "PlannedTables$Run" lev kc ks) (he : mm_end E Γ (some .int) kc ks Post y_RN_whenGiven.name) (hca : ca ≤ kc) (hsa : sa ≤ ks) (hw : mm_sh w) {n0 : Nat} (hn0 : mm_run w n0) {s1 : Nat} (hs1 : s1 < 39) (k0 : Post (some (.int 2)) w f) : mm_go E Γ 2 187 [(0, mm_rf E n0), (1, mm_rf E (56 + 2 * s1))] [] w f ca sa := by
  refine mm_iconst (v := 2) h d_RN_whenGiven_187 (by decide) ?_
  exact mm_iret h he rfl d_RN_whenGiven_188 hca hsa k0
theorem d_RN_whenEnded_0 : decode b_RN_whenEnded 0 = .ok (.aload_n 1, 1) := by decide +kernel
theorem d_RN_whenEnded_1 : decode b_RN_whenEnded 1 = .ok (.getfield 72, 3) := by decide +kernel
theorem d_RN_whenEnded_4 : decode b_RN_whenEnded 4 = .ok (.tableswitch (66) (8) (10) #[(28), (28), (45)], 28) := by decide +kernel
theorem d_RN_whenEnded_32 : decode b_RN_whenEnded 32 = .ok (.aload_n 1, 1) := by decide +kernel
theorem d_RN_whenEnded_33 : decode b_RN_whenEnded 33 = .ok (.iconst (1), 1) := by decide +kernel
theorem d_RN_whenEnded_34 : decode b_RN_whenEnded 34 = .ok (.putfield 68, 3) := by decide +kernel
theorem d_RN_whenEnded_37 : decode b_RN_whenEnded 37 = .ok (.aload_n 0, 1) := by decide +kernel
theorem d_RN_whenEnded_38 : decode b_RN_whenEnded 38 = .ok (.getfield 9, 3) := by decide +kernel
theorem d_RN_whenEnded_41 : decode b_RN_whenEnded 41 = .ok (.iconst (0), 1) := by decide +kernel
theorem d_RN_whenEnded_42 : decode b_RN_whenEnded 42 = .ok (.aload_n 1, 1) := by decide +kernel
theorem d_RN_whenEnded_43 : decode b_RN_whenEnded 43 = .ok (.getfield 63, 3) := by decide +kernel
theorem d_RN_whenEnded_46 : decode b_RN_whenEnded 46 = .ok (.iastore, 1) := by decide +kernel
theorem d_RN_whenEnded_47 : decode b_RN_whenEnded 47 = .ok (.iconst (1), 1) := by decide +kernel
theorem d_RN_whenEnded_48 : decode b_RN_whenEnded 48 = .ok (.ireturn, 1) := by decide +kernel
theorem d_RN_whenEnded_49 : decode b_RN_whenEnded 49 = .ok (.aload_n 1, 1) := by decide +kernel
theorem d_RN_whenEnded_50 : decode b_RN_whenEnded 50 = .ok (.iconst (1), 1) := by decide +kernel
theorem d_RN_whenEnded_51 : decode b_RN_whenEnded 51 = .ok (.putfield 68, 3) := by decide +kernel
theorem d_RN_whenEnded_54 : decode b_RN_whenEnded 54 = .ok (.aload_n 1, 1) := by decide +kernel
theorem d_RN_whenEnded_55 : decode b_RN_whenEnded 55 = .ok (.getfield 63, 3) := by decide +kernel
theorem d_RN_whenEnded_58 : decode b_RN_whenEnded 58 = .ok (.ifCond .ne (5), 3) := by decide +kernel
theorem d_RN_whenEnded_61 : decode b_RN_whenEnded 61 = .ok (.iconst (2), 1) := by decide +kernel
theorem d_RN_whenEnded_62 : decode b_RN_whenEnded 62 = .ok (.ireturn, 1) := by decide +kernel
theorem d_RN_whenEnded_63 : decode b_RN_whenEnded 63 = .ok (.aload_n 0, 1) := by decide +kernel
theorem d_RN_whenEnded_64 : decode b_RN_whenEnded 64 = .ok (.aload_n 1, 1) := by decide +kernel
theorem d_RN_whenEnded_65 : decode b_RN_whenEnded 65 = .ok (.invokevirtual 141, 3) := by decide +kernel
theorem d_RN_whenEnded_68 : decode b_RN_whenEnded 68 = .ok (.iconst (1), 1) := by decide +kernel
theorem d_RN_whenEnded_69 : decode b_RN_whenEnded 69 = .ok (.ireturn, 1) := by decide +kernel
theorem d_RN_whenEnded_70 : decode b_RN_whenEnded 70 = .ok (.iconst (2), 1) := by decide +kernel
theorem d_RN_whenEnded_71 : decode b_RN_whenEnded 71 = .ok (.ireturn, 1) := by decide +kernel
theorem s_RN_whenEnded_0 {E : mm_E} {Γ : mm_G} {lev kc ks ca sa : Nat} {w : mm_W} {f : mm_F} (h : mm_ok E Γ b_RN_whenEnded 2 "PlannedTables$Run" lev kc ks) (hw : mm_sh w) {n0 : Nat} (hn0 : mm_run w n0) {s1 : Nat} (hs1 : s1 < 39) (k0 : (f (56 + 2 * s1) 0) = 8 → mm_go E Γ 2 32 [(0, mm_rf E n0), (1, mm_rf E (56 + 2 * s1))] [] w f ca sa) (k1 : ¬ (f (56 + 2 * s1) 0) = 8 → (f (56 + 2 * s1) 0) = 9 → mm_go E Γ 2 32 [(0, mm_rf E n0), (1, mm_rf E (56 + 2 * s1))] [] w f ca sa) (k2 : ¬ (f (56 + 2 * s1) 0) = 8 → ¬ (f (56 + 2 * s1) 0) = 9 → (f (56 + 2 * s1) 0) = 10 → mm_go E Γ 2 49 [(0, mm_rf E n0), (1, mm_rf E (56 + 2 * s1))] [] w f ca sa) (k3 : ¬ (f (56 + 2 * s1) 0) = 8 → ¬ (f (56 + 2 * s1) 0) = 9 → ¬ (f (56 + 2 * s1) 0) = 10 → mm_go E Γ 2 70 [(0, mm_rf E n0), (1, mm_rf E (56 + 2 * s1))] [] w f ca sa) : mm_go E Γ 2 0 [(0, mm_rf E n0), (1, mm_rf E (56 + 2 * s1))] [] w f ca sa := by
  refine mm_aload_n h d_RN_whenEnded_0 1 rfl rfl ?_
  refine mm_geti h fl_RN_72 rfl (is_S hw hs1) d_RN_whenEnded_1 ?_
  by_cases c1 : (f (56 + 2 * s1) 0) = 8
  · refine mm_tin h d_RN_whenEnded_4 (by rw [c1]; decide) (by rw [c1]; decide) (off := 28) (by rw [c1]; rfl) (tgt := 32) (by decide) ?_
    exact (k0 c1)
  by_cases c2 : (f (56 + 2 * s1) 0) = 9
  · refine mm_tin h d_RN_whenEnded_4 (by rw [c2]; decide) (by rw [c2]; decide) (off := 28) (by rw [c2]; rfl) (tgt := 32) (by decide) ?_
    exact (k1 c1 c2)
  by_cases c3 : (f (56 + 2 * s1) 0) = 10
  · refine mm_tin h d_RN_whenEnded_4 (by rw [c3]; decide) (by rw [c3]; decide) (off := 45) (by rw [c3]; rfl) (tgt := 49) (by decide) ?_
    exact (k2 c1 c2 c3)
  refine mm_tout h d_RN_whenEnded_4 (by have q0 := mm_ne 8 8 (by decide) c1; have q1 := mm_ne 9 9 (by decide) c2; have q2 := mm_ne 10 10 (by decide) c3; omega) (tgt := 70) (by decide) ?_
  exact (k3 c1 c2 c3)
theorem s_RN_whenEnded_32 {E : mm_E} {Γ : mm_G} {lev kc ks ca sa : Nat} {w : mm_W} {f : mm_F} {Post : Option Value → mm_W → mm_F → Prop} (h : mm_ok E Γ b_RN_whenEnded 2 "PlannedTables$Run" lev kc ks) (he : mm_end E Γ (some .int) kc ks Post y_RN_whenEnded.name) (hca : ca ≤ kc) (hsa : sa ≤ ks) (hw : mm_sh w) {n0 : Nat} (hn0 : mm_run w n0) {s1 : Nat} (hs1 : s1 < 39) (k0 : Post (some (.int 1)) w (mm_up (mm_up f (56 + 2 * s1) 8 1) (n0 + 1) 0 ((mm_up f (56 + 2 * s1) 8 1) (56 + 2 * s1) 7))) : mm_go E Γ 2 32 [(0, mm_rf E n0), (1, mm_rf E (56 + 2 * s1))] [] w f ca sa := by
  refine mm_aload_n h d_RN_whenEnded_32 1 rfl rfl ?_
  refine mm_iconst (v := 1) h d_RN_whenEnded_33 (by decide) ?_
  refine mm_puti h fl_RN_68 (Or.inl rfl) rfl rfl rfl (is_S hw hs1) d_RN_whenEnded_34 ?_
  refine mm_aload_n h d_RN_whenEnded_37 0 rfl rfl ?_
  refine mm_getr h fl_RN_9 rfl hn0.2.1 hn0.2.2.2.2.2.1 hn0.2.2.2.2.2.2.1.1 d_RN_whenEnded_38 ?_
  refine mm_iconst (v := 0) h d_RN_whenEnded_41 (by decide) ?_
  refine mm_aload_n h d_RN_whenEnded_42 1 rfl rfl ?_
  refine mm_geti h fl_RN_63 rfl (is_S hw hs1) d_RN_whenEnded_43 ?_
  refine mm_iast h hn0.2.2.2.2.2.2 (by unfold vp_in; decide) d_RN_whenEnded_46 ?_
  refine mm_iconst (v := 1) h d_RN_whenEnded_47 (by decide) ?_
  exact mm_iret h he rfl d_RN_whenEnded_48 hca hsa k0
theorem s_RN_whenEnded_49 {E : mm_E} {Γ : mm_G} {lev kc ks ca sa : Nat} {w : mm_W} {f : mm_F} {Post : Option Value → mm_W → mm_F → Prop} (h : mm_ok E Γ b_RN_whenEnded 2 "PlannedTables$Run" lev kc ks) (he : mm_end E Γ (some .int) kc ks Post y_RN_whenEnded.name) (hca : ca ≤ kc) (hsa : sa ≤ ks) (hw : mm_sh w) {n0 : Nat} (hn0 : mm_run w n0) {s1 : Nat} (hs1 : s1 < 39) {vl0 vc0 vs0 : Nat} {P0 : Option Value → mm_W → mm_F → Prop} (hl0 : vl0 < lev) (hu0 : ca + vc0 ≤ kc) (hz0 : sa + vs0 ≤ ks) (m0 : ¬ ((mm_up f (56 + 2 * s1) 8 1) (56 + 2 * s1) 7) = 0 → mm_C E y_RN_writeGroup b_RN_writeGroup 2 none vl0 vc0 vs0 [mm_rf E n0, mm_rf E (56 + 2 * s1)] w (mm_up f (56 + 2 * s1) 8 1) P0) (k1 : ¬ ((mm_up f (56 + 2 * s1) 8 1) (56 + 2 * s1) 7) = 0 → ∀ (r : Option Value) (w1 : mm_W) (f1 : mm_F), P0 r w1 f1 → mm_go E Γ 2 68 [(0, mm_rf E n0), (1, mm_rf E (56 + 2 * s1))] (r.toList ++ []) w1 f1 (ca + vc0) (sa + vs0)) (k2 : ((mm_up f (56 + 2 * s1) 8 1) (56 + 2 * s1) 7) = 0 → Post (some (.int 2)) w (mm_up f (56 + 2 * s1) 8 1)) : mm_go E Γ 2 49 [(0, mm_rf E n0), (1, mm_rf E (56 + 2 * s1))] [] w f ca sa := by
  refine mm_aload_n h d_RN_whenEnded_49 1 rfl rfl ?_
  refine mm_iconst (v := 1) h d_RN_whenEnded_50 (by decide) ?_
  refine mm_puti h fl_RN_68 (Or.inl rfl) rfl rfl rfl (is_S hw hs1) d_RN_whenEnded_51 ?_
  refine mm_aload_n h d_RN_whenEnded_54 1 rfl rfl ?_
  refine mm_geti h fl_RN_63 rfl (is_S hw hs1) d_RN_whenEnded_55 ?_
  refine mm_if_ne h d_RN_whenEnded_58 (tgt := 63) (by decide) (fun c1 => ?_) (fun c1 => ?_)
  · skip
    refine mm_aload_n h d_RN_whenEnded_63 0 rfl rfl ?_
    refine mm_aload_n h d_RN_whenEnded_64 1 rfl rfl ?_
    exact mm_callV (As := [mm_rf E (56 + 2 * s1)]) (rest := []) h (m0 c1) cv_RN_141 cm_RN_writeGroup hl0 (q0 := _) rfl rfl hn0.2.1 hu0 hz0 rfl rfl (Nat.le_of_ble_eq_true rfl) d_RN_whenEnded_65 (fun r w1 f1 hp => (k1 c1) r w1 f1 hp)
  · skip
    refine mm_iconst (v := 2) h d_RN_whenEnded_61 (by decide) ?_
    exact mm_iret h he rfl d_RN_whenEnded_62 hca hsa (k2 c1)
theorem s_RN_whenEnded_68 {E : mm_E} {Γ : mm_G} {lev kc ks ca sa : Nat} {w : mm_W} {f : mm_F} {Post : Option Value → mm_W → mm_F → Prop} (h : mm_ok E Γ b_RN_whenEnded 2 "PlannedTables$Run" lev kc ks) (he : mm_end E Γ (some .int) kc ks Post y_RN_whenEnded.name) (hca : ca ≤ kc) (hsa : sa ≤ ks) (hw : mm_sh w) {n0 : Nat} (hn0 : mm_run w n0) {s1 : Nat} (hs1 : s1 < 39) (k0 : Post (some (.int 1)) w f) : mm_go E Γ 2 68 [(0, mm_rf E n0), (1, mm_rf E (56 + 2 * s1))] [] w f ca sa := by
  refine mm_iconst (v := 1) h d_RN_whenEnded_68 (by decide) ?_
  exact mm_iret h he rfl d_RN_whenEnded_69 hca hsa k0
theorem s_RN_whenEnded_70 {E : mm_E} {Γ : mm_G} {lev kc ks ca sa : Nat} {w : mm_W} {f : mm_F} {Post : Option Value → mm_W → mm_F → Prop} (h : mm_ok E Γ b_RN_whenEnded 2 "PlannedTables$Run" lev kc ks) (he : mm_end E Γ (some .int) kc ks Post y_RN_whenEnded.name) (hca : ca ≤ kc) (hsa : sa ≤ ks) (hw : mm_sh w) {n0 : Nat} (hn0 : mm_run w n0) {s1 : Nat} (hs1 : s1 < 39) (k0 : Post (some (.int 2)) w f) : mm_go E Γ 2 70 [(0, mm_rf E n0), (1, mm_rf E (56 + 2 * s1))] [] w f ca sa := by
  refine mm_iconst (v := 2) h d_RN_whenEnded_70 (by decide) ?_
  exact mm_iret h he rfl d_RN_whenEnded_71 hca hsa k0
theorem d_RN_skipOrGive_0 : decode b_RN_skipOrGive 0 = .ok (.aload_n 1, 1) := by decide +kernel
theorem d_RN_skipOrGive_1 : decode b_RN_skipOrGive 1 = .ok (.getfield 63, 3) := by decide +kernel
theorem d_RN_skipOrGive_4 : decode b_RN_skipOrGive 4 = .ok (.ifCond .ne (5), 3) := by decide +kernel
theorem d_RN_skipOrGive_7 : decode b_RN_skipOrGive 7 = .ok (.iconst (1), 1) := by decide +kernel
theorem d_RN_skipOrGive_8 : decode b_RN_skipOrGive 8 = .ok (.ireturn, 1) := by decide +kernel
theorem d_RN_skipOrGive_9 : decode b_RN_skipOrGive 9 = .ok (.aload_n 1, 1) := by decide +kernel
theorem d_RN_skipOrGive_10 : decode b_RN_skipOrGive 10 = .ok (.dup, 1) := by decide +kernel
theorem d_RN_skipOrGive_11 : decode b_RN_skipOrGive 11 = .ok (.getfield 63, 3) := by decide +kernel
theorem d_RN_skipOrGive_14 : decode b_RN_skipOrGive 14 = .ok (.iconst (1), 1) := by decide +kernel
theorem d_RN_skipOrGive_15 : decode b_RN_skipOrGive 15 = .ok (.isub, 1) := by decide +kernel
theorem d_RN_skipOrGive_16 : decode b_RN_skipOrGive 16 = .ok (.putfield 63, 3) := by decide +kernel
theorem d_RN_skipOrGive_19 : decode b_RN_skipOrGive 19 = .ok (.iconst (0), 1) := by decide +kernel
theorem d_RN_skipOrGive_20 : decode b_RN_skipOrGive 20 = .ok (.ireturn, 1) := by decide +kernel
theorem s_RN_skipOrGive_0 {E : mm_E} {Γ : mm_G} {lev kc ks ca sa : Nat} {w : mm_W} {f : mm_F} {Post : Option Value → mm_W → mm_F → Prop} (h : mm_ok E Γ b_RN_skipOrGive 2 "PlannedTables$Run" lev kc ks) (he : mm_end E Γ (some .int) kc ks Post y_RN_skipOrGive.name) (hca : ca ≤ kc) (hsa : sa ≤ ks) (hw : mm_sh w) {n0 : Nat} (hn0 : mm_run w n0) {s1 : Nat} (hs1 : s1 < 39) (k0 : ¬ (f (56 + 2 * s1) 7) = 0 → Post (some (.int 0)) w (mm_up f (56 + 2 * s1) 7 ((f (56 + 2 * s1) 7) - 1))) (k1 : (f (56 + 2 * s1) 7) = 0 → Post (some (.int 1)) w f) : mm_go E Γ 2 0 [(0, mm_rf E n0), (1, mm_rf E (56 + 2 * s1))] [] w f ca sa := by
  refine mm_aload_n h d_RN_skipOrGive_0 1 rfl rfl ?_
  refine mm_geti h fl_RN_63 rfl (is_S hw hs1) d_RN_skipOrGive_1 ?_
  refine mm_if_ne h d_RN_skipOrGive_4 (tgt := 9) (by decide) (fun c1 => ?_) (fun c1 => ?_)
  · skip
    refine mm_aload_n h d_RN_skipOrGive_9 1 rfl rfl ?_
    refine mm_dup h d_RN_skipOrGive_10 rfl ?_
    refine mm_geti h fl_RN_63 rfl (is_S hw hs1) d_RN_skipOrGive_11 ?_
    refine mm_iconst (v := 1) h d_RN_skipOrGive_14 (by decide) ?_
    refine mm_isub h d_RN_skipOrGive_15 ?_
    refine mm_puti h fl_RN_63 (Or.inl rfl) rfl rfl rfl (is_S hw hs1) d_RN_skipOrGive_16 ?_
    refine mm_iconst (v := 0) h d_RN_skipOrGive_19 (by decide) ?_
    exact mm_iret h he rfl d_RN_skipOrGive_20 hca hsa (k0 c1)
  · skip
    refine mm_iconst (v := 1) h d_RN_skipOrGive_7 (by decide) ?_
    exact mm_iret h he rfl d_RN_skipOrGive_8 hca hsa (k1 c1)
theorem d_RN_addToGroup_0 : decode b_RN_addToGroup 0 = .ok (.aload_n 1, 1) := by decide +kernel
theorem d_RN_addToGroup_1 : decode b_RN_addToGroup 1 = .ok (.getfield 63, 3) := by decide +kernel
theorem d_RN_addToGroup_4 : decode b_RN_addToGroup 4 = .ok (.ifCond .eq (13), 3) := by decide +kernel
theorem d_RN_addToGroup_7 : decode b_RN_addToGroup 7 = .ok (.aload_n 1, 1) := by decide +kernel
theorem d_RN_addToGroup_8 : decode b_RN_addToGroup 8 = .ok (.getfield 125, 3) := by decide +kernel
theorem d_RN_addToGroup_11 : decode b_RN_addToGroup 11 = .ok (.iconst (0), 1) := by decide +kernel
theorem d_RN_addToGroup_12 : decode b_RN_addToGroup 12 = .ok (.iaload, 1) := by decide +kernel
theorem d_RN_addToGroup_13 : decode b_RN_addToGroup 13 = .ok (.iload_n 2, 1) := by decide +kernel
theorem d_RN_addToGroup_14 : decode b_RN_addToGroup 14 = .ok (.if_icmp .ne (22), 3) := by decide +kernel
theorem d_RN_addToGroup_17 : decode b_RN_addToGroup 17 = .ok (.aload_n 1, 1) := by decide +kernel
theorem d_RN_addToGroup_18 : decode b_RN_addToGroup 18 = .ok (.getfield 125, 3) := by decide +kernel
theorem d_RN_addToGroup_21 : decode b_RN_addToGroup 21 = .ok (.iconst (0), 1) := by decide +kernel
theorem d_RN_addToGroup_22 : decode b_RN_addToGroup 22 = .ok (.iload_n 2, 1) := by decide +kernel
theorem d_RN_addToGroup_23 : decode b_RN_addToGroup 23 = .ok (.iastore, 1) := by decide +kernel
theorem d_RN_addToGroup_24 : decode b_RN_addToGroup 24 = .ok (.aload_n 1, 1) := by decide +kernel
theorem d_RN_addToGroup_25 : decode b_RN_addToGroup 25 = .ok (.dup, 1) := by decide +kernel
theorem d_RN_addToGroup_26 : decode b_RN_addToGroup 26 = .ok (.getfield 63, 3) := by decide +kernel
theorem d_RN_addToGroup_29 : decode b_RN_addToGroup 29 = .ok (.iconst (1), 1) := by decide +kernel
theorem d_RN_addToGroup_30 : decode b_RN_addToGroup 30 = .ok (.iadd, 1) := by decide +kernel
theorem d_RN_addToGroup_31 : decode b_RN_addToGroup 31 = .ok (.putfield 63, 3) := by decide +kernel
theorem d_RN_addToGroup_34 : decode b_RN_addToGroup 34 = .ok (.iconst (0), 1) := by decide +kernel
theorem d_RN_addToGroup_35 : decode b_RN_addToGroup 35 = .ok (.ireturn, 1) := by decide +kernel
theorem d_RN_addToGroup_36 : decode b_RN_addToGroup 36 = .ok (.aload_n 0, 1) := by decide +kernel
theorem d_RN_addToGroup_37 : decode b_RN_addToGroup 37 = .ok (.aload_n 1, 1) := by decide +kernel
theorem d_RN_addToGroup_38 : decode b_RN_addToGroup 38 = .ok (.invokevirtual 141, 3) := by decide +kernel
theorem d_RN_addToGroup_41 : decode b_RN_addToGroup 41 = .ok (.aload_n 1, 1) := by decide +kernel
theorem d_RN_addToGroup_42 : decode b_RN_addToGroup 42 = .ok (.getfield 125, 3) := by decide +kernel
theorem d_RN_addToGroup_45 : decode b_RN_addToGroup 45 = .ok (.iconst (0), 1) := by decide +kernel
theorem d_RN_addToGroup_46 : decode b_RN_addToGroup 46 = .ok (.iload_n 2, 1) := by decide +kernel
theorem d_RN_addToGroup_47 : decode b_RN_addToGroup 47 = .ok (.iastore, 1) := by decide +kernel
theorem d_RN_addToGroup_48 : decode b_RN_addToGroup 48 = .ok (.aload_n 1, 1) := by decide +kernel
theorem d_RN_addToGroup_49 : decode b_RN_addToGroup 49 = .ok (.iconst (1), 1) := by decide +kernel
theorem d_RN_addToGroup_50 : decode b_RN_addToGroup 50 = .ok (.putfield 63, 3) := by decide +kernel
theorem d_RN_addToGroup_53 : decode b_RN_addToGroup 53 = .ok (.iconst (1), 1) := by decide +kernel
theorem d_RN_addToGroup_54 : decode b_RN_addToGroup 54 = .ok (.ireturn, 1) := by decide +kernel
theorem s_RN_addToGroup_0 {E : mm_E} {Γ : mm_G} {lev kc ks ca sa : Nat} {w : mm_W} {f : mm_F} (h : mm_ok E Γ b_RN_addToGroup 3 "PlannedTables$Run" lev kc ks) (hw : mm_sh w) {n0 : Nat} (hn0 : mm_run w n0) {s1 : Nat} (hs1 : s1 < 39) {x2 : Int32} (k0 : (f (56 + 2 * s1) 7) = 0 → mm_go E Γ 3 17 [(0, mm_rf E n0), (1, mm_rf E (56 + 2 * s1)), (2, .int x2)] [] w f ca sa) {vl0 vc0 vs0 : Nat} {P0 : Option Value → mm_W → mm_F → Prop} (hl0 : vl0 < lev) (hu0 : ca + vc0 ≤ kc) (hz0 : sa + vs0 ≤ ks) (m1 : ¬ (f (56 + 2 * s1) 7) = 0 → ¬ (f (57 + 2 * s1) 0) = x2 → mm_C E y_RN_writeGroup b_RN_writeGroup 2 none vl0 vc0 vs0 [mm_rf E n0, mm_rf E (56 + 2 * s1)] w f P0) (k2 : ¬ (f (56 + 2 * s1) 7) = 0 → ¬ (f (57 + 2 * s1) 0) = x2 → ∀ (r : Option Value) (w1 : mm_W) (f1 : mm_F), P0 r w1 f1 → mm_go E Γ 3 41 [(0, mm_rf E n0), (1, mm_rf E (56 + 2 * s1)), (2, .int x2)] (r.toList ++ []) w1 f1 (ca + vc0) (sa + vs0)) (k3 : ¬ (f (56 + 2 * s1) 7) = 0 → (f (57 + 2 * s1) 0) = x2 → mm_go E Γ 3 17 [(0, mm_rf E n0), (1, mm_rf E (56 + 2 * s1)), (2, .int x2)] [] w f ca sa) : mm_go E Γ 3 0 [(0, mm_rf E n0), (1, mm_rf E (56 + 2 * s1)), (2, .int x2)] [] w f ca sa := by
  refine mm_aload_n h d_RN_addToGroup_0 1 rfl rfl ?_
  refine mm_geti h fl_RN_63 rfl (is_S hw hs1) d_RN_addToGroup_1 ?_
  refine mm_if_eq h d_RN_addToGroup_4 (tgt := 17) (by decide) (fun c1 => ?_) (fun c1 => ?_)
  · skip
    exact (k0 c1)
  · skip
    refine mm_aload_n h d_RN_addToGroup_7 1 rfl rfl ?_
    refine mm_getr h fl_RN_125 rfl (is_S hw hs1) (rf_S_kept hw hs1) (is_SK hw hs1).1.1 d_RN_addToGroup_8 ?_
    refine mm_iconst (v := 0) h d_RN_addToGroup_11 (by decide) ?_
    refine mm_iald h (is_SK hw hs1) (by unfold vp_in; decide) d_RN_addToGroup_12 ?_
    refine mm_iload_n h d_RN_addToGroup_13 2 rfl rfl ?_
    refine mm_icmp_ne h d_RN_addToGroup_14 (tgt := 36) (by decide) (fun c2 => ?_) (fun c2 => ?_)
    · skip
      refine mm_aload_n h d_RN_addToGroup_36 0 rfl rfl ?_
      refine mm_aload_n h d_RN_addToGroup_37 1 rfl rfl ?_
      exact mm_callV (As := [mm_rf E (56 + 2 * s1)]) (rest := []) h (m1 c1 c2) cv_RN_141 cm_RN_writeGroup hl0 (q0 := _) rfl rfl hn0.2.1 hu0 hz0 rfl rfl (Nat.le_of_ble_eq_true rfl) d_RN_addToGroup_38 (fun r w1 f1 hp => (k2 c1 c2) r w1 f1 hp)
    · skip
      exact (k3 c1 c2)
theorem s_RN_addToGroup_17 {E : mm_E} {Γ : mm_G} {lev kc ks ca sa : Nat} {w : mm_W} {f : mm_F} {Post : Option Value → mm_W → mm_F → Prop} (h : mm_ok E Γ b_RN_addToGroup 3 "PlannedTables$Run" lev kc ks) (he : mm_end E Γ (some .int) kc ks Post y_RN_addToGroup.name) (hca : ca ≤ kc) (hsa : sa ≤ ks) (hw : mm_sh w) {n0 : Nat} (hn0 : mm_run w n0) {s1 : Nat} (hs1 : s1 < 39) {x2 : Int32} (k0 : Post (some (.int 0)) w (mm_up (mm_up f (57 + 2 * s1) 0 x2) (56 + 2 * s1) 7 (((mm_up f (57 + 2 * s1) 0 x2) (56 + 2 * s1) 7) + 1))) : mm_go E Γ 3 17 [(0, mm_rf E n0), (1, mm_rf E (56 + 2 * s1)), (2, .int x2)] [] w f ca sa := by
  refine mm_aload_n h d_RN_addToGroup_17 1 rfl rfl ?_
  refine mm_getr h fl_RN_125 rfl (is_S hw hs1) (rf_S_kept hw hs1) (is_SK hw hs1).1.1 d_RN_addToGroup_18 ?_
  refine mm_iconst (v := 0) h d_RN_addToGroup_21 (by decide) ?_
  refine mm_iload_n h d_RN_addToGroup_22 2 rfl rfl ?_
  refine mm_iast h (is_SK hw hs1) (by unfold vp_in; decide) d_RN_addToGroup_23 ?_
  refine mm_aload_n h d_RN_addToGroup_24 1 rfl rfl ?_
  refine mm_dup h d_RN_addToGroup_25 rfl ?_
  refine mm_geti h fl_RN_63 rfl (is_S hw hs1) d_RN_addToGroup_26 ?_
  refine mm_iconst (v := 1) h d_RN_addToGroup_29 (by decide) ?_
  refine mm_iadd h d_RN_addToGroup_30 ?_
  refine mm_puti h fl_RN_63 (Or.inl rfl) rfl rfl rfl (is_S hw hs1) d_RN_addToGroup_31 ?_
  refine mm_iconst (v := 0) h d_RN_addToGroup_34 (by decide) ?_
  exact mm_iret h he rfl d_RN_addToGroup_35 hca hsa k0
theorem s_RN_addToGroup_41 {E : mm_E} {Γ : mm_G} {lev kc ks ca sa : Nat} {w : mm_W} {f : mm_F} {Post : Option Value → mm_W → mm_F → Prop} (h : mm_ok E Γ b_RN_addToGroup 3 "PlannedTables$Run" lev kc ks) (he : mm_end E Γ (some .int) kc ks Post y_RN_addToGroup.name) (hca : ca ≤ kc) (hsa : sa ≤ ks) (hw : mm_sh w) {n0 : Nat} (hn0 : mm_run w n0) {s1 : Nat} (hs1 : s1 < 39) {x2 : Int32} (k0 : Post (some (.int 1)) w (mm_up (mm_up f (57 + 2 * s1) 0 x2) (56 + 2 * s1) 7 1)) : mm_go E Γ 3 41 [(0, mm_rf E n0), (1, mm_rf E (56 + 2 * s1)), (2, .int x2)] [] w f ca sa := by
  refine mm_aload_n h d_RN_addToGroup_41 1 rfl rfl ?_
  refine mm_getr h fl_RN_125 rfl (is_S hw hs1) (rf_S_kept hw hs1) (is_SK hw hs1).1.1 d_RN_addToGroup_42 ?_
  refine mm_iconst (v := 0) h d_RN_addToGroup_45 (by decide) ?_
  refine mm_iload_n h d_RN_addToGroup_46 2 rfl rfl ?_
  refine mm_iast h (is_SK hw hs1) (by unfold vp_in; decide) d_RN_addToGroup_47 ?_
  refine mm_aload_n h d_RN_addToGroup_48 1 rfl rfl ?_
  refine mm_iconst (v := 1) h d_RN_addToGroup_49 (by decide) ?_
  refine mm_puti h fl_RN_63 (Or.inl rfl) rfl rfl rfl (is_S hw hs1) d_RN_addToGroup_50 ?_
  refine mm_iconst (v := 1) h d_RN_addToGroup_53 (by decide) ?_
  exact mm_iret h he rfl d_RN_addToGroup_54 hca hsa k0
theorem d_RN_writeGroup_0 : decode b_RN_writeGroup 0 = .ok (.aload_n 0, 1) := by decide +kernel
theorem d_RN_writeGroup_1 : decode b_RN_writeGroup 1 = .ok (.getfield 9, 3) := by decide +kernel
theorem d_RN_writeGroup_4 : decode b_RN_writeGroup 4 = .ok (.iconst (0), 1) := by decide +kernel
theorem d_RN_writeGroup_5 : decode b_RN_writeGroup 5 = .ok (.aload_n 1, 1) := by decide +kernel
theorem d_RN_writeGroup_6 : decode b_RN_writeGroup 6 = .ok (.getfield 125, 3) := by decide +kernel
theorem d_RN_writeGroup_9 : decode b_RN_writeGroup 9 = .ok (.iconst (0), 1) := by decide +kernel
theorem d_RN_writeGroup_10 : decode b_RN_writeGroup 10 = .ok (.iaload, 1) := by decide +kernel
theorem d_RN_writeGroup_11 : decode b_RN_writeGroup 11 = .ok (.iastore, 1) := by decide +kernel
theorem d_RN_writeGroup_12 : decode b_RN_writeGroup 12 = .ok (.aload_n 0, 1) := by decide +kernel
theorem d_RN_writeGroup_13 : decode b_RN_writeGroup 13 = .ok (.getfield 9, 3) := by decide +kernel
theorem d_RN_writeGroup_16 : decode b_RN_writeGroup 16 = .ok (.iconst (1), 1) := by decide +kernel
theorem d_RN_writeGroup_17 : decode b_RN_writeGroup 17 = .ok (.aload_n 1, 1) := by decide +kernel
theorem d_RN_writeGroup_18 : decode b_RN_writeGroup 18 = .ok (.getfield 63, 3) := by decide +kernel
theorem d_RN_writeGroup_21 : decode b_RN_writeGroup 21 = .ok (.iastore, 1) := by decide +kernel
theorem d_RN_writeGroup_22 : decode b_RN_writeGroup 22 = .ok (.return_, 1) := by decide +kernel
theorem s_RN_writeGroup_0 {E : mm_E} {Γ : mm_G} {lev kc ks ca sa : Nat} {w : mm_W} {f : mm_F} {Post : Option Value → mm_W → mm_F → Prop} (h : mm_ok E Γ b_RN_writeGroup 2 "PlannedTables$Run" lev kc ks) (he : mm_end E Γ none kc ks Post y_RN_writeGroup.name) (hca : ca ≤ kc) (hsa : sa ≤ ks) (hw : mm_sh w) {n0 : Nat} (hn0 : mm_run w n0) {s1 : Nat} (hs1 : s1 < 39) (k0 : Post none w (mm_up (mm_up f (n0 + 1) 0 (f (57 + 2 * s1) 0)) (n0 + 1) 1 ((mm_up f (n0 + 1) 0 (f (57 + 2 * s1) 0)) (56 + 2 * s1) 7))) : mm_go E Γ 2 0 [(0, mm_rf E n0), (1, mm_rf E (56 + 2 * s1))] [] w f ca sa := by
  refine mm_aload_n h d_RN_writeGroup_0 0 rfl rfl ?_
  refine mm_getr h fl_RN_9 rfl hn0.2.1 hn0.2.2.2.2.2.1 hn0.2.2.2.2.2.2.1.1 d_RN_writeGroup_1 ?_
  refine mm_iconst (v := 0) h d_RN_writeGroup_4 (by decide) ?_
  refine mm_aload_n h d_RN_writeGroup_5 1 rfl rfl ?_
  refine mm_getr h fl_RN_125 rfl (is_S hw hs1) (rf_S_kept hw hs1) (is_SK hw hs1).1.1 d_RN_writeGroup_6 ?_
  refine mm_iconst (v := 0) h d_RN_writeGroup_9 (by decide) ?_
  refine mm_iald h (is_SK hw hs1) (by unfold vp_in; decide) d_RN_writeGroup_10 ?_
  refine mm_iast h hn0.2.2.2.2.2.2 (by unfold vp_in; decide) d_RN_writeGroup_11 ?_
  refine mm_aload_n h d_RN_writeGroup_12 0 rfl rfl ?_
  refine mm_getr h fl_RN_9 rfl hn0.2.1 hn0.2.2.2.2.2.1 hn0.2.2.2.2.2.2.1.1 d_RN_writeGroup_13 ?_
  refine mm_iconst (v := 1) h d_RN_writeGroup_16 (by decide) ?_
  refine mm_aload_n h d_RN_writeGroup_17 1 rfl rfl ?_
  refine mm_geti h fl_RN_63 rfl (is_S hw hs1) d_RN_writeGroup_18 ?_
  refine mm_iast h hn0.2.2.2.2.2.2 (by unfold vp_in; decide) d_RN_writeGroup_21 ?_
  exact mm_vret h he d_RN_writeGroup_22 hca hsa k0
theorem d_RN_pick_0 : decode b_RN_pick 0 = .ok (.aload_n 0, 1) := by decide +kernel
theorem d_RN_pick_1 : decode b_RN_pick 1 = .ok (.aload_n 1, 1) := by decide +kernel
theorem d_RN_pick_2 : decode b_RN_pick 2 = .ok (.iconst (1), 1) := by decide +kernel
theorem d_RN_pick_3 : decode b_RN_pick 3 = .ok (.invokevirtual 75, 3) := by decide +kernel
theorem d_RN_pick_6 : decode b_RN_pick 6 = .ok (.istore_n 2, 1) := by decide +kernel
theorem d_RN_pick_7 : decode b_RN_pick 7 = .ok (.iconst (0), 1) := by decide +kernel
theorem d_RN_pick_8 : decode b_RN_pick 8 = .ok (.istore_n 3, 1) := by decide +kernel
theorem d_RN_pick_9 : decode b_RN_pick 9 = .ok (.iload_n 3, 1) := by decide +kernel
theorem d_RN_pick_10 : decode b_RN_pick 10 = .ok (.iload_n 2, 1) := by decide +kernel
theorem d_RN_pick_11 : decode b_RN_pick 11 = .ok (.if_icmp .ge (23), 3) := by decide +kernel
theorem d_RN_pick_14 : decode b_RN_pick 14 = .ok (.aload_n 1, 1) := by decide +kernel
theorem d_RN_pick_15 : decode b_RN_pick 15 = .ok (.getfield 125, 3) := by decide +kernel
theorem d_RN_pick_18 : decode b_RN_pick 18 = .ok (.iload_n 3, 1) := by decide +kernel
theorem d_RN_pick_19 : decode b_RN_pick 19 = .ok (.aload_n 0, 1) := by decide +kernel
theorem d_RN_pick_20 : decode b_RN_pick 20 = .ok (.aload_n 1, 1) := by decide +kernel
theorem d_RN_pick_21 : decode b_RN_pick 21 = .ok (.iconst (2), 1) := by decide +kernel
theorem d_RN_pick_22 : decode b_RN_pick 22 = .ok (.iload_n 3, 1) := by decide +kernel
theorem d_RN_pick_23 : decode b_RN_pick 23 = .ok (.iadd, 1) := by decide +kernel
theorem d_RN_pick_24 : decode b_RN_pick 24 = .ok (.invokevirtual 115, 3) := by decide +kernel
theorem d_RN_pick_27 : decode b_RN_pick 27 = .ok (.iastore, 1) := by decide +kernel
theorem d_RN_pick_28 : decode b_RN_pick 28 = .ok (.iinc 3 (1), 3) := by decide +kernel
theorem d_RN_pick_31 : decode b_RN_pick 31 = .ok (.goto (-22), 3) := by decide +kernel
theorem d_RN_pick_34 : decode b_RN_pick 34 = .ok (.aload_n 1, 1) := by decide +kernel
theorem d_RN_pick_35 : decode b_RN_pick 35 = .ok (.getfield 125, 3) := by decide +kernel
theorem d_RN_pick_38 : decode b_RN_pick 38 = .ok (.aload_n 0, 1) := by decide +kernel
theorem d_RN_pick_39 : decode b_RN_pick 39 = .ok (.getfield 9, 3) := by decide +kernel
theorem d_RN_pick_42 : decode b_RN_pick 42 = .ok (.iload_n 2, 1) := by decide +kernel
theorem d_RN_pick_43 : decode b_RN_pick 43 = .ok (.invokestatic 131, 3) := by decide +kernel
theorem d_RN_pick_46 : decode b_RN_pick 46 = .ok (.return_, 1) := by decide +kernel
theorem s_RN_pick_0 {E : mm_E} {Γ : mm_G} {lev kc ks ca sa : Nat} {w : mm_W} {f : mm_F} (h : mm_ok E Γ b_RN_pick 4 "PlannedTables$Run" lev kc ks) (hw : mm_sh w) {n0 : Nat} (hn0 : mm_run w n0) {s1 : Nat} (hs1 : s1 < 39) {vl0 vc0 vs0 : Nat} {P0 : Option Value → mm_W → mm_F → Prop} (hl0 : vl0 < lev) (hu0 : ca + vc0 ≤ kc) (hz0 : sa + vs0 ≤ ks) (m0 : mm_C E y_RN_wordOf b_RN_wordOf 3 (some .int) vl0 vc0 vs0 [mm_rf E n0, mm_rf E (56 + 2 * s1), .int 1] w f P0) (k1 : ∀ (r : Option Value) (w1 : mm_W) (f1 : mm_F), P0 r w1 f1 → mm_go E Γ 4 6 [(0, mm_rf E n0), (1, mm_rf E (56 + 2 * s1))] (r.toList ++ []) w1 f1 (ca + vc0) (sa + vs0)) : mm_go E Γ 4 0 [(0, mm_rf E n0), (1, mm_rf E (56 + 2 * s1))] [] w f ca sa := by
  refine mm_aload_n h d_RN_pick_0 0 rfl rfl ?_
  refine mm_aload_n h d_RN_pick_1 1 rfl rfl ?_
  refine mm_iconst (v := 1) h d_RN_pick_2 (by decide) ?_
  exact mm_callV (As := [mm_rf E (56 + 2 * s1), .int 1]) (rest := []) h m0 cv_RN_75 cm_RN_wordOf hl0 (q0 := _) rfl rfl hn0.2.1 hu0 hz0 rfl rfl (Nat.le_of_ble_eq_true rfl) d_RN_pick_3 (fun r w1 f1 hp => k1 r w1 f1 hp)
theorem s_RN_pick_6 {E : mm_E} {Γ : mm_G} {lev kc ks ca sa : Nat} {w : mm_W} {f : mm_F} (h : mm_ok E Γ b_RN_pick 4 "PlannedTables$Run" lev kc ks) (hw : mm_sh w) {n0 : Nat} (hn0 : mm_run w n0) {s1 : Nat} (hs1 : s1 < 39) {xk0 : Int32} (k0 : mm_go E Γ 4 9 [(0, mm_rf E n0), (1, mm_rf E (56 + 2 * s1)), (2, .int xk0), (3, .int 0)] [] w f ca sa) : mm_go E Γ 4 6 [(0, mm_rf E n0), (1, mm_rf E (56 + 2 * s1))] [.int xk0] w f ca sa := by
  refine mm_istore_n (lv' := [(2, .int xk0), (0, mm_rf E n0), (1, mm_rf E (56 + 2 * s1))]) h d_RN_pick_6 rfl (by decide) rfl ?_
  refine mm_iconst (v := 0) h d_RN_pick_7 (by decide) ?_
  refine mm_istore_n (lv' := [(3, .int 0), (2, .int xk0), (0, mm_rf E n0), (1, mm_rf E (56 + 2 * s1))]) h d_RN_pick_8 rfl (by decide) rfl ?_
  refine mm_sub [2, 3, 1, 0] rfl ?_
  exact k0
theorem s_RN_pick_9 {E : mm_E} {Γ : mm_G} {lev kc ks ca sa : Nat} {w : mm_W} {f : mm_F} (h : mm_ok E Γ b_RN_pick 4 "PlannedTables$Run" lev kc ks) (hw : mm_sh w) {n0 : Nat} (hn0 : mm_run w n0) {s1 : Nat} (hs1 : s1 < 39) {x2 : Int32} {x3 : Int32} {vl0 vc0 vs0 : Nat} {P0 : Option Value → mm_W → mm_F → Prop} (hl0 : vl0 < lev) (hu0 : ca + vc0 ≤ kc) (hz0 : sa + vs0 ≤ ks) (m0 : x2 ≤ x3 → mm_C E y_RN_copyCells b_RN_copyCells 4 none vl0 vc0 vs0 [mm_rf E (57 + 2 * s1), mm_rf E (n0 + 1), .int x2] w f P0) (k1 : x2 ≤ x3 → ∀ (r : Option Value) (w1 : mm_W) (f1 : mm_F), P0 r w1 f1 → mm_go E Γ 4 46 [(0, mm_rf E n0), (1, mm_rf E (56 + 2 * s1)), (2, .int x2), (3, .int x3)] (r.toList ++ []) w1 f1 (ca + vc0) (sa + vs0)) {vl1 vc1 vs1 : Nat} {P1 : Option Value → mm_W → mm_F → Prop} (hl1 : vl1 < lev) (hu1 : ca + vc1 ≤ kc) (hz1 : sa + vs1 ≤ ks) (m2 : ¬ x2 ≤ x3 → mm_C E y_RN_cellOf b_RN_cellOf 3 (some .int) vl1 vc1 vs1 [mm_rf E n0, mm_rf E (56 + 2 * s1), .int (2 + x3)] w f P1) (k3 : ¬ x2 ≤ x3 → ∀ (r : Option Value) (w1 : mm_W) (f1 : mm_F), P1 r w1 f1 → mm_go E Γ 4 27 [(0, mm_rf E n0), (1, mm_rf E (56 + 2 * s1)), (2, .int x2), (3, .int x3)] (r.toList ++ [.int x3, mm_rf E (57 + 2 * s1)]) w1 f1 (ca + vc1) (sa + vs1)) : mm_go E Γ 4 9 [(0, mm_rf E n0), (1, mm_rf E (56 + 2 * s1)), (2, .int x2), (3, .int x3)] [] w f ca sa := by
  refine mm_iload_n h d_RN_pick_9 3 rfl rfl ?_
  refine mm_iload_n h d_RN_pick_10 2 rfl rfl ?_
  refine mm_icmp_ge h d_RN_pick_11 (tgt := 34) (by decide) (fun c1 => ?_) (fun c1 => ?_)
  · skip
    refine mm_aload_n h d_RN_pick_34 1 rfl rfl ?_
    refine mm_getr h fl_RN_125 rfl (is_S hw hs1) (rf_S_kept hw hs1) (is_SK hw hs1).1.1 d_RN_pick_35 ?_
    refine mm_aload_n h d_RN_pick_38 0 rfl rfl ?_
    refine mm_getr h fl_RN_9 rfl hn0.2.1 hn0.2.2.2.2.2.1 hn0.2.2.2.2.2.2.1.1 d_RN_pick_39 ?_
    refine mm_iload_n h d_RN_pick_42 2 rfl rfl ?_
    exact mm_callS (As := [mm_rf E (57 + 2 * s1), mm_rf E (n0 + 1), .int x2]) (rest := []) h (m0 c1) cs_RN_131 ct_RN_copyCells cm_RN_copyCells hl0 hu0 hz0 rfl rfl (Nat.le_of_ble_eq_true rfl) d_RN_pick_43 (fun r w1 f1 hp => (k1 c1) r w1 f1 hp)
  · skip
    refine mm_aload_n h d_RN_pick_14 1 rfl rfl ?_
    refine mm_getr h fl_RN_125 rfl (is_S hw hs1) (rf_S_kept hw hs1) (is_SK hw hs1).1.1 d_RN_pick_15 ?_
    refine mm_iload_n h d_RN_pick_18 3 rfl rfl ?_
    refine mm_aload_n h d_RN_pick_19 0 rfl rfl ?_
    refine mm_aload_n h d_RN_pick_20 1 rfl rfl ?_
    refine mm_iconst (v := 2) h d_RN_pick_21 (by decide) ?_
    refine mm_iload_n h d_RN_pick_22 3 rfl rfl ?_
    refine mm_iadd h d_RN_pick_23 ?_
    exact mm_callV (As := [mm_rf E (56 + 2 * s1), .int (2 + x3)]) (rest := [.int x3, mm_rf E (57 + 2 * s1)]) h (m2 c1) cv_RN_115 cm_RN_cellOf hl1 (q0 := _) rfl rfl hn0.2.1 hu1 hz1 rfl rfl (Nat.le_of_ble_eq_true rfl) d_RN_pick_24 (fun r w1 f1 hp => (k3 c1) r w1 f1 hp)
theorem s_RN_pick_27 {E : mm_E} {Γ : mm_G} {lev kc ks ca sa : Nat} {w : mm_W} {f : mm_F} (h : mm_ok E Γ b_RN_pick 4 "PlannedTables$Run" lev kc ks) (hw : mm_sh w) {n0 : Nat} (hn0 : mm_run w n0) {s1 : Nat} (hs1 : s1 < 39) {x2 : Int32} {x3 : Int32} {sk0 : Nat} (hsk0 : sk0 < 39) {xk1 : Int32} {xk2 : Int32} (b0 : vp_in xk1 8) (k1 : mm_go E Γ 4 9 [(0, mm_rf E n0), (1, mm_rf E (56 + 2 * s1)), (2, .int x2), (3, .int (x3 + 1))] [] w (mm_up f (57 + 2 * sk0) (xk1).toNatClampNeg xk2) ca sa) : mm_go E Γ 4 27 [(0, mm_rf E n0), (1, mm_rf E (56 + 2 * s1)), (2, .int x2), (3, .int x3)] [.int xk2, .int xk1, mm_rf E (57 + 2 * sk0)] w f ca sa := by
  refine mm_iast h (is_SK hw hsk0) b0 d_RN_pick_27 ?_
  refine mm_iinc (lv' := [(3, .int (x3 + 1)), (0, mm_rf E n0), (1, mm_rf E (56 + 2 * s1)), (2, .int x2)]) h d_RN_pick_28 3 rfl (congrArg (fun z => x3 + z) lit1) (by decide) rfl ?_
  refine mm_goto h d_RN_pick_31 (tgt := 9) (by decide) ?_
  refine mm_sub [1, 2, 3, 0] rfl ?_
  exact k1
theorem s_RN_pick_46 {E : mm_E} {Γ : mm_G} {lev kc ks ca sa : Nat} {w : mm_W} {f : mm_F} {Post : Option Value → mm_W → mm_F → Prop} (h : mm_ok E Γ b_RN_pick 4 "PlannedTables$Run" lev kc ks) (he : mm_end E Γ none kc ks Post y_RN_pick.name) (hca : ca ≤ kc) (hsa : sa ≤ ks) (hw : mm_sh w) {n0 : Nat} (hn0 : mm_run w n0) {s1 : Nat} (hs1 : s1 < 39) {x2 : Int32} {x3 : Int32} (k0 : Post none w f) : mm_go E Γ 4 46 [(0, mm_rf E n0), (1, mm_rf E (56 + 2 * s1)), (2, .int x2), (3, .int x3)] [] w f ca sa := by
  exact mm_vret h he d_RN_pick_46 hca hsa k0
theorem d_RN_beginWalk_0 : decode b_RN_beginWalk 0 = .ok (.aload_n 1, 1) := by decide +kernel
theorem d_RN_beginWalk_1 : decode b_RN_beginWalk 1 = .ok (.aload_n 0, 1) := by decide +kernel
theorem d_RN_beginWalk_2 : decode b_RN_beginWalk 2 = .ok (.getfield 15, 3) := by decide +kernel
theorem d_RN_beginWalk_5 : decode b_RN_beginWalk 5 = .ok (.getfield 90, 3) := by decide +kernel
theorem d_RN_beginWalk_8 : decode b_RN_beginWalk 8 = .ok (.aload_n 1, 1) := by decide +kernel
theorem d_RN_beginWalk_9 : decode b_RN_beginWalk 9 = .ok (.getfield 78, 3) := by decide +kernel
theorem d_RN_beginWalk_12 : decode b_RN_beginWalk 12 = .ok (.aaload, 1) := by decide +kernel
theorem d_RN_beginWalk_13 : decode b_RN_beginWalk 13 = .ok (.aload_n 1, 1) := by decide +kernel
theorem d_RN_beginWalk_14 : decode b_RN_beginWalk 14 = .ok (.getfield 81, 3) := by decide +kernel
theorem d_RN_beginWalk_17 : decode b_RN_beginWalk 17 = .ok (.iload_n 2, 1) := by decide +kernel
theorem d_RN_beginWalk_18 : decode b_RN_beginWalk 18 = .ok (.invokevirtual 144, 3) := by decide +kernel
theorem d_RN_beginWalk_21 : decode b_RN_beginWalk 21 = .ok (.putfield 99, 3) := by decide +kernel
theorem d_RN_beginWalk_24 : decode b_RN_beginWalk 24 = .ok (.aload_n 1, 1) := by decide +kernel
theorem d_RN_beginWalk_25 : decode b_RN_beginWalk 25 = .ok (.iload_n 3, 1) := by decide +kernel
theorem d_RN_beginWalk_26 : decode b_RN_beginWalk 26 = .ok (.putfield 148, 3) := by decide +kernel
theorem d_RN_beginWalk_29 : decode b_RN_beginWalk 29 = .ok (.return_, 1) := by decide +kernel
theorem s_RN_beginWalk_0 {E : mm_E} {Γ : mm_G} {lev kc ks ca sa : Nat} {w : mm_W} {f : mm_F} (h : mm_ok E Γ b_RN_beginWalk 4 "PlannedTables$Run" lev kc ks) (hw : mm_sh w) {n0 : Nat} (hn0 : mm_run w n0) {s1 : Nat} (hs1 : s1 < 39) {x2 : Int32} {x3 : Int32} (b0 : vp_in (f (56 + 2 * s1) 3) 4) {vl0 vc0 vs0 : Nat} {P0 : Option Value → mm_W → mm_F → Prop} (hl0 : vl0 < lev) (hu0 : ca + vc0 ≤ kc) (hz0 : sa + vs0 ≤ ks) (m1 : mm_C E y_TB_placeFrom b_TB_placeFrom 5 (some .int) vl0 vc0 vs0 [mm_rf E (4 + 12 * ((f (56 + 2 * s1) 3)).toNatClampNeg), .int (f (56 + 2 * s1) 4), .int x2] w f P0) (k2 : ∀ (r : Option Value) (w1 : mm_W) (f1 : mm_F), P0 r w1 f1 → mm_go E Γ 4 21 [(0, mm_rf E n0), (1, mm_rf E (56 + 2 * s1)), (2, .int x2), (3, .int x3)] (r.toList ++ [mm_rf E (56 + 2 * s1)]) w1 f1 (ca + vc0) (sa + vs0)) : mm_go E Γ 4 0 [(0, mm_rf E n0), (1, mm_rf E (56 + 2 * s1)), (2, .int x2), (3, .int x3)] [] w f ca sa := by
  refine mm_aload_n h d_RN_beginWalk_0 1 rfl rfl ?_
  refine mm_aload_n h d_RN_beginWalk_1 0 rfl rfl ?_
  refine mm_getr h fl_RN_15 rfl hn0.2.1 hn0.2.2.1 (is_TS hw).1 d_RN_beginWalk_2 ?_
  refine mm_getr h fl_RN_90 rfl (is_TS hw) (rf_TS_all hw) (is_TA hw).1.1 d_RN_beginWalk_5 ?_
  refine mm_aload_n h d_RN_beginWalk_8 1 rfl rfl ?_
  refine mm_geti h fl_RN_78 rfl (is_S hw hs1) d_RN_beginWalk_9 ?_
  refine mm_aald h 4 rfl rfl rfl (fun _ => rfl) (is_TA hw) b0 (ra_TA hw (mm_in_lt b0)) (is_T hw (mm_in_lt b0)).1 d_RN_beginWalk_12 ?_
  refine mm_aload_n h d_RN_beginWalk_13 1 rfl rfl ?_
  refine mm_geti h fl_RN_81 rfl (is_S hw hs1) d_RN_beginWalk_14 ?_
  refine mm_iload_n h d_RN_beginWalk_17 2 rfl rfl ?_
  exact mm_callV (As := [.int (f (56 + 2 * s1) 4), .int x2]) (rest := [mm_rf E (56 + 2 * s1)]) h m1 cv_RN_144 cm_TB_placeFrom hl0 (q0 := _) rfl rfl (is_T hw (mm_in_lt b0)) hu0 hz0 rfl rfl (Nat.le_of_ble_eq_true rfl) d_RN_beginWalk_18 (fun r w1 f1 hp => k2 r w1 f1 hp)
theorem s_RN_beginWalk_21 {E : mm_E} {Γ : mm_G} {lev kc ks ca sa : Nat} {w : mm_W} {f : mm_F} {Post : Option Value → mm_W → mm_F → Prop} (h : mm_ok E Γ b_RN_beginWalk 4 "PlannedTables$Run" lev kc ks) (he : mm_end E Γ none kc ks Post y_RN_beginWalk.name) (hca : ca ≤ kc) (hsa : sa ≤ ks) (hw : mm_sh w) {n0 : Nat} (hn0 : mm_run w n0) {s1 : Nat} (hs1 : s1 < 39) {x2 : Int32} {x3 : Int32} {sk0 : Nat} (hsk0 : sk0 < 39) {xk1 : Int32} (k0 : Post none w (mm_up (mm_up f (56 + 2 * sk0) 5 xk1) (56 + 2 * s1) 6 x3)) : mm_go E Γ 4 21 [(0, mm_rf E n0), (1, mm_rf E (56 + 2 * s1)), (2, .int x2), (3, .int x3)] [.int xk1, mm_rf E (56 + 2 * sk0)] w f ca sa := by
  refine mm_puti h fl_RN_99 (Or.inl rfl) rfl rfl rfl (is_S hw hsk0) d_RN_beginWalk_21 ?_
  refine mm_aload_n h d_RN_beginWalk_24 1 rfl rfl ?_
  refine mm_iload_n h d_RN_beginWalk_25 3 rfl rfl ?_
  refine mm_puti h fl_RN_148 (Or.inl rfl) rfl rfl rfl (is_S hw hs1) d_RN_beginWalk_26 ?_
  exact mm_vret h he d_RN_beginWalk_29 hca hsa k0
theorem d_RN_walkOn_0 : decode b_RN_walkOn 0 = .ok (.aload_n 0, 1) := by decide +kernel
theorem d_RN_walkOn_1 : decode b_RN_walkOn 1 = .ok (.getfield 15, 3) := by decide +kernel
theorem d_RN_walkOn_4 : decode b_RN_walkOn 4 = .ok (.getfield 90, 3) := by decide +kernel
theorem d_RN_walkOn_7 : decode b_RN_walkOn 7 = .ok (.aload_n 1, 1) := by decide +kernel
theorem d_RN_walkOn_8 : decode b_RN_walkOn 8 = .ok (.getfield 78, 3) := by decide +kernel
theorem d_RN_walkOn_11 : decode b_RN_walkOn 11 = .ok (.aaload, 1) := by decide +kernel
theorem d_RN_walkOn_12 : decode b_RN_walkOn 12 = .ok (.astore_n 3, 1) := by decide +kernel
theorem d_RN_walkOn_13 : decode b_RN_walkOn 13 = .ok (.aload_n 1, 1) := by decide +kernel
theorem d_RN_walkOn_14 : decode b_RN_walkOn 14 = .ok (.getfield 99, 3) := by decide +kernel
theorem d_RN_walkOn_17 : decode b_RN_walkOn 17 = .ok (.aload_n 3, 1) := by decide +kernel
theorem d_RN_walkOn_18 : decode b_RN_walkOn 18 = .ok (.getfield 96, 3) := by decide +kernel
theorem d_RN_walkOn_21 : decode b_RN_walkOn 21 = .ok (.if_icmp .ge (22), 3) := by decide +kernel
theorem d_RN_walkOn_24 : decode b_RN_walkOn 24 = .ok (.aload_n 3, 1) := by decide +kernel
theorem d_RN_walkOn_25 : decode b_RN_walkOn 25 = .ok (.aload_n 1, 1) := by decide +kernel
theorem d_RN_walkOn_26 : decode b_RN_walkOn 26 = .ok (.getfield 81, 3) := by decide +kernel
theorem d_RN_walkOn_29 : decode b_RN_walkOn 29 = .ok (.aload_n 1, 1) := by decide +kernel
theorem d_RN_walkOn_30 : decode b_RN_walkOn 30 = .ok (.getfield 99, 3) := by decide +kernel
theorem d_RN_walkOn_33 : decode b_RN_walkOn 33 = .ok (.invokevirtual 151, 3) := by decide +kernel
theorem d_RN_walkOn_36 : decode b_RN_walkOn 36 = .ok (.aload_n 1, 1) := by decide +kernel
theorem d_RN_walkOn_37 : decode b_RN_walkOn 37 = .ok (.getfield 148, 3) := by decide +kernel
theorem d_RN_walkOn_40 : decode b_RN_walkOn 40 = .ok (.if_icmp .le (5), 3) := by decide +kernel
theorem d_RN_walkOn_43 : decode b_RN_walkOn 43 = .ok (.iload_n 2, 1) := by decide +kernel
theorem d_RN_walkOn_44 : decode b_RN_walkOn 44 = .ok (.ireturn, 1) := by decide +kernel
theorem d_RN_walkOn_45 : decode b_RN_walkOn 45 = .ok (.aload_n 0, 1) := by decide +kernel
theorem d_RN_walkOn_46 : decode b_RN_walkOn 46 = .ok (.getfield 154, 3) := by decide +kernel
theorem d_RN_walkOn_49 : decode b_RN_walkOn 49 = .ok (.aload_n 0, 1) := by decide +kernel
theorem d_RN_walkOn_50 : decode b_RN_walkOn 50 = .ok (.getfield 27, 3) := by decide +kernel
theorem d_RN_walkOn_53 : decode b_RN_walkOn 53 = .ok (.if_icmp .lt (5), 3) := by decide +kernel
theorem d_RN_walkOn_56 : decode b_RN_walkOn 56 = .ok (.iconst (3), 1) := by decide +kernel
theorem d_RN_walkOn_57 : decode b_RN_walkOn 57 = .ok (.ireturn, 1) := by decide +kernel
theorem d_RN_walkOn_58 : decode b_RN_walkOn 58 = .ok (.aload_n 0, 1) := by decide +kernel
theorem d_RN_walkOn_59 : decode b_RN_walkOn 59 = .ok (.dup, 1) := by decide +kernel
theorem d_RN_walkOn_60 : decode b_RN_walkOn 60 = .ok (.getfield 154, 3) := by decide +kernel
theorem d_RN_walkOn_63 : decode b_RN_walkOn 63 = .ok (.iconst (1), 1) := by decide +kernel
theorem d_RN_walkOn_64 : decode b_RN_walkOn 64 = .ok (.iadd, 1) := by decide +kernel
theorem d_RN_walkOn_65 : decode b_RN_walkOn 65 = .ok (.putfield 154, 3) := by decide +kernel
theorem d_RN_walkOn_68 : decode b_RN_walkOn 68 = .ok (.aload_n 1, 1) := by decide +kernel
theorem d_RN_walkOn_69 : decode b_RN_walkOn 69 = .ok (.getfield 125, 3) := by decide +kernel
theorem d_RN_walkOn_72 : decode b_RN_walkOn 72 = .ok (.aload_n 0, 1) := by decide +kernel
theorem d_RN_walkOn_73 : decode b_RN_walkOn 73 = .ok (.getfield 9, 3) := by decide +kernel
theorem d_RN_walkOn_76 : decode b_RN_walkOn 76 = .ok (.aload_n 1, 1) := by decide +kernel
theorem d_RN_walkOn_77 : decode b_RN_walkOn 77 = .ok (.getfield 128, 3) := by decide +kernel
theorem d_RN_walkOn_80 : decode b_RN_walkOn 80 = .ok (.invokestatic 131, 3) := by decide +kernel
theorem d_RN_walkOn_83 : decode b_RN_walkOn 83 = .ok (.aload_n 3, 1) := by decide +kernel
theorem d_RN_walkOn_84 : decode b_RN_walkOn 84 = .ok (.aload_n 1, 1) := by decide +kernel
theorem d_RN_walkOn_85 : decode b_RN_walkOn 85 = .ok (.getfield 81, 3) := by decide +kernel
theorem d_RN_walkOn_88 : decode b_RN_walkOn 88 = .ok (.aload_n 1, 1) := by decide +kernel
theorem d_RN_walkOn_89 : decode b_RN_walkOn 89 = .ok (.getfield 99, 3) := by decide +kernel
theorem d_RN_walkOn_92 : decode b_RN_walkOn 92 = .ok (.aload_n 0, 1) := by decide +kernel
theorem d_RN_walkOn_93 : decode b_RN_walkOn 93 = .ok (.getfield 9, 3) := by decide +kernel
theorem d_RN_walkOn_96 : decode b_RN_walkOn 96 = .ok (.aload_n 1, 1) := by decide +kernel
theorem d_RN_walkOn_97 : decode b_RN_walkOn 97 = .ok (.getfield 128, 3) := by decide +kernel
theorem d_RN_walkOn_100 : decode b_RN_walkOn 100 = .ok (.invokevirtual 157, 3) := by decide +kernel
theorem d_RN_walkOn_103 : decode b_RN_walkOn 103 = .ok (.aload_n 1, 1) := by decide +kernel
theorem d_RN_walkOn_104 : decode b_RN_walkOn 104 = .ok (.dup, 1) := by decide +kernel
theorem d_RN_walkOn_105 : decode b_RN_walkOn 105 = .ok (.getfield 99, 3) := by decide +kernel
theorem d_RN_walkOn_108 : decode b_RN_walkOn 108 = .ok (.iconst (1), 1) := by decide +kernel
theorem d_RN_walkOn_109 : decode b_RN_walkOn 109 = .ok (.iadd, 1) := by decide +kernel
theorem d_RN_walkOn_110 : decode b_RN_walkOn 110 = .ok (.putfield 99, 3) := by decide +kernel
theorem d_RN_walkOn_113 : decode b_RN_walkOn 113 = .ok (.iconst (1), 1) := by decide +kernel
theorem d_RN_walkOn_114 : decode b_RN_walkOn 114 = .ok (.ireturn, 1) := by decide +kernel
theorem s_RN_walkOn_0 {E : mm_E} {Γ : mm_G} {lev kc ks ca sa : Nat} {w : mm_W} {f : mm_F} (h : mm_ok E Γ b_RN_walkOn 4 "PlannedTables$Run" lev kc ks) (hw : mm_sh w) {n0 : Nat} (hn0 : mm_run w n0) {s1 : Nat} (hs1 : s1 < 39) {x2 : Int32} (b0 : vp_in (f (56 + 2 * s1) 3) 4) (k1 : (f (4 + 12 * ((f (56 + 2 * s1) 3)).toNatClampNeg) 1) ≤ (f (56 + 2 * s1) 5) → mm_go E Γ 4 43 [(0, mm_rf E n0), (1, mm_rf E (56 + 2 * s1)), (2, .int x2), (3, mm_rf E (4 + 12 * ((f (56 + 2 * s1) 3)).toNatClampNeg))] [] w f ca sa) {vl0 vc0 vs0 : Nat} {P0 : Option Value → mm_W → mm_F → Prop} (hl0 : vl0 < lev) (hu0 : ca + vc0 ≤ kc) (hz0 : sa + vs0 ≤ ks) (m2 : ¬ (f (4 + 12 * ((f (56 + 2 * s1) 3)).toNatClampNeg) 1) ≤ (f (56 + 2 * s1) 5) → mm_C E y_TB_cellAt b_TB_cellAt 3 (some .int) vl0 vc0 vs0 [mm_rf E (4 + 12 * ((f (56 + 2 * s1) 3)).toNatClampNeg), .int (f (56 + 2 * s1) 4), .int (f (56 + 2 * s1) 5)] w f P0) (k3 : ¬ (f (4 + 12 * ((f (56 + 2 * s1) 3)).toNatClampNeg) 1) ≤ (f (56 + 2 * s1) 5) → ∀ (r : Option Value) (w1 : mm_W) (f1 : mm_F), P0 r w1 f1 → mm_go E Γ 4 36 [(0, mm_rf E n0), (1, mm_rf E (56 + 2 * s1)), (2, .int x2), (3, mm_rf E (4 + 12 * ((f (56 + 2 * s1) 3)).toNatClampNeg))] (r.toList ++ []) w1 f1 (ca + vc0) (sa + vs0)) : mm_go E Γ 4 0 [(0, mm_rf E n0), (1, mm_rf E (56 + 2 * s1)), (2, .int x2)] [] w f ca sa := by
  refine mm_aload_n h d_RN_walkOn_0 0 rfl rfl ?_
  refine mm_getr h fl_RN_15 rfl hn0.2.1 hn0.2.2.1 (is_TS hw).1 d_RN_walkOn_1 ?_
  refine mm_getr h fl_RN_90 rfl (is_TS hw) (rf_TS_all hw) (is_TA hw).1.1 d_RN_walkOn_4 ?_
  refine mm_aload_n h d_RN_walkOn_7 1 rfl rfl ?_
  refine mm_geti h fl_RN_78 rfl (is_S hw hs1) d_RN_walkOn_8 ?_
  refine mm_aald h 4 rfl rfl rfl (fun _ => rfl) (is_TA hw) b0 (ra_TA hw (mm_in_lt b0)) (is_T hw (mm_in_lt b0)).1 d_RN_walkOn_11 ?_
  refine mm_astore_n (lv' := [(3, mm_rf E (4 + 12 * ((f (56 + 2 * s1) 3)).toNatClampNeg)), (0, mm_rf E n0), (1, mm_rf E (56 + 2 * s1)), (2, .int x2)]) h d_RN_walkOn_12 rfl (by decide) rfl ?_
  refine mm_aload_n h d_RN_walkOn_13 2 rfl rfl ?_
  refine mm_geti h fl_RN_99 rfl (is_S hw hs1) d_RN_walkOn_14 ?_
  refine mm_aload_n h d_RN_walkOn_17 0 rfl rfl ?_
  refine mm_geti h fl_RN_96 rfl (is_T hw (mm_in_lt b0)) d_RN_walkOn_18 ?_
  refine mm_icmp_ge h d_RN_walkOn_21 (tgt := 43) (by decide) (fun c1 => ?_) (fun c1 => ?_)
  · skip
    refine mm_sub [1, 2, 3, 0] rfl ?_
    exact (k1 c1)
  · skip
    refine mm_aload_n h d_RN_walkOn_24 0 rfl rfl ?_
    refine mm_aload_n h d_RN_walkOn_25 2 rfl rfl ?_
    refine mm_geti h fl_RN_81 rfl (is_S hw hs1) d_RN_walkOn_26 ?_
    refine mm_aload_n h d_RN_walkOn_29 2 rfl rfl ?_
    refine mm_geti h fl_RN_99 rfl (is_S hw hs1) d_RN_walkOn_30 ?_
    exact mm_callV (As := [.int (f (56 + 2 * s1) 4), .int (f (56 + 2 * s1) 5)]) (rest := []) h (m2 c1) cv_RN_151 cm_TB_cellAt hl0 (q0 := _) rfl rfl (is_T hw (mm_in_lt b0)) hu0 hz0 rfl rfl (Nat.le_of_ble_eq_true rfl) d_RN_walkOn_33 (fun r w1 f1 hp => mm_sub [1, 2, 3, 0] rfl ((k3 c1) r w1 f1 hp))
theorem s_RN_walkOn_36 {E : mm_E} {Γ : mm_G} {lev kc ks ca sa : Nat} {w : mm_W} {f : mm_F} {Post : Option Value → mm_W → mm_F → Prop} (h : mm_ok E Γ b_RN_walkOn 4 "PlannedTables$Run" lev kc ks) (he : mm_end E Γ (some .int) kc ks Post y_RN_walkOn.name) (hca : ca ≤ kc) (hsa : sa ≤ ks) (hw : mm_sh w) {n0 : Nat} (hn0 : mm_run w n0) {s1 : Nat} (hs1 : s1 < 39) {x2 : Int32} {t3 : Nat} (ht3 : t3 < 4) {xk0 : Int32} {vl0 vc0 vs0 : Nat} {P0 : Option Value → mm_W → mm_F → Prop} (hl0 : vl0 < lev) (hu0 : ca + vc0 ≤ kc) (hz0 : sa + vs0 ≤ ks) (m0 : xk0 ≤ (f (56 + 2 * s1) 6) → (f n0 4) < (f n0 3) → mm_C E y_RN_copyCells b_RN_copyCells 4 none vl0 vc0 vs0 [mm_rf E (57 + 2 * s1), mm_rf E (n0 + 1), .int ((mm_up f n0 4 ((f n0 4) + 1)) (56 + 2 * s1) 2)] w (mm_up f n0 4 ((f n0 4) + 1)) P0) (k1 : xk0 ≤ (f (56 + 2 * s1) 6) → (f n0 4) < (f n0 3) → ∀ (r : Option Value) (w1 : mm_W) (f1 : mm_F), P0 r w1 f1 → mm_go E Γ 4 83 [(0, mm_rf E n0), (1, mm_rf E (56 + 2 * s1)), (2, .int x2), (3, mm_rf E (4 + 12 * t3))] (r.toList ++ []) w1 f1 (ca + vc0) (sa + vs0)) (k2 : xk0 ≤ (f (56 + 2 * s1) 6) → ¬ (f n0 4) < (f n0 3) → Post (some (.int 3)) w f) (k3 : ¬ xk0 ≤ (f (56 + 2 * s1) 6) → mm_go E Γ 4 43 [(0, mm_rf E n0), (1, mm_rf E (56 + 2 * s1)), (2, .int x2), (3, mm_rf E (4 + 12 * t3))] [] w f ca sa) : mm_go E Γ 4 36 [(0, mm_rf E n0), (1, mm_rf E (56 + 2 * s1)), (2, .int x2), (3, mm_rf E (4 + 12 * t3))] [.int xk0] w f ca sa := by
  refine mm_aload_n h d_RN_walkOn_36 1 rfl rfl ?_
  refine mm_geti h fl_RN_148 rfl (is_S hw hs1) d_RN_walkOn_37 ?_
  refine mm_icmp_le h d_RN_walkOn_40 (tgt := 45) (by decide) (fun c1 => ?_) (fun c1 => ?_)
  · skip
    refine mm_aload_n h d_RN_walkOn_45 0 rfl rfl ?_
    refine mm_geti h fl_RN_154 rfl hn0.2.1 d_RN_walkOn_46 ?_
    refine mm_aload_n h d_RN_walkOn_49 0 rfl rfl ?_
    refine mm_geti h fl_RN_27 rfl hn0.2.1 d_RN_walkOn_50 ?_
    refine mm_icmp_lt h d_RN_walkOn_53 (tgt := 58) (by decide) (fun c2 => ?_) (fun c2 => ?_)
    · skip
      refine mm_aload_n h d_RN_walkOn_58 0 rfl rfl ?_
      refine mm_dup h d_RN_walkOn_59 rfl ?_
      refine mm_geti h fl_RN_154 rfl hn0.2.1 d_RN_walkOn_60 ?_
      refine mm_iconst (v := 1) h d_RN_walkOn_63 (by decide) ?_
      refine mm_iadd h d_RN_walkOn_64 ?_
      refine mm_puti h fl_RN_154 (Or.inl rfl) rfl rfl rfl hn0.2.1 d_RN_walkOn_65 ?_
      refine mm_aload_n h d_RN_walkOn_68 1 rfl rfl ?_
      refine mm_getr h fl_RN_125 rfl (is_S hw hs1) (rf_S_kept hw hs1) (is_SK hw hs1).1.1 d_RN_walkOn_69 ?_
      refine mm_aload_n h d_RN_walkOn_72 0 rfl rfl ?_
      refine mm_getr h fl_RN_9 rfl hn0.2.1 hn0.2.2.2.2.2.1 hn0.2.2.2.2.2.2.1.1 d_RN_walkOn_73 ?_
      refine mm_aload_n h d_RN_walkOn_76 1 rfl rfl ?_
      refine mm_geti h fl_RN_128 rfl (is_S hw hs1) d_RN_walkOn_77 ?_
      exact mm_callS (As := [mm_rf E (57 + 2 * s1), mm_rf E (n0 + 1), .int ((mm_up f n0 4 ((f n0 4) + 1)) (56 + 2 * s1) 2)]) (rest := []) h (m0 c1 c2) cs_RN_131 ct_RN_copyCells cm_RN_copyCells hl0 hu0 hz0 rfl rfl (Nat.le_of_ble_eq_true rfl) d_RN_walkOn_80 (fun r w1 f1 hp => (k1 c1 c2) r w1 f1 hp)
    · skip
      refine mm_iconst (v := 3) h d_RN_walkOn_56 (by decide) ?_
      exact mm_iret h he rfl d_RN_walkOn_57 hca hsa (k2 c1 c2)
  · skip
    exact (k3 c1)
theorem s_RN_walkOn_43 {E : mm_E} {Γ : mm_G} {lev kc ks ca sa : Nat} {w : mm_W} {f : mm_F} {Post : Option Value → mm_W → mm_F → Prop} (h : mm_ok E Γ b_RN_walkOn 4 "PlannedTables$Run" lev kc ks) (he : mm_end E Γ (some .int) kc ks Post y_RN_walkOn.name) (hca : ca ≤ kc) (hsa : sa ≤ ks) (hw : mm_sh w) {n0 : Nat} (hn0 : mm_run w n0) {s1 : Nat} (hs1 : s1 < 39) {x2 : Int32} {t3 : Nat} (ht3 : t3 < 4) (k0 : Post (some (.int x2)) w f) : mm_go E Γ 4 43 [(0, mm_rf E n0), (1, mm_rf E (56 + 2 * s1)), (2, .int x2), (3, mm_rf E (4 + 12 * t3))] [] w f ca sa := by
  refine mm_iload_n h d_RN_walkOn_43 2 rfl rfl ?_
  exact mm_iret h he rfl d_RN_walkOn_44 hca hsa k0
theorem s_RN_walkOn_83 {E : mm_E} {Γ : mm_G} {lev kc ks ca sa : Nat} {w : mm_W} {f : mm_F} (h : mm_ok E Γ b_RN_walkOn 4 "PlannedTables$Run" lev kc ks) (hw : mm_sh w) {n0 : Nat} (hn0 : mm_run w n0) {s1 : Nat} (hs1 : s1 < 39) {x2 : Int32} {t3 : Nat} (ht3 : t3 < 4) {vl0 vc0 vs0 : Nat} {P0 : Option Value → mm_W → mm_F → Prop} (hl0 : vl0 < lev) (hu0 : ca + vc0 ≤ kc) (hz0 : sa + vs0 ≤ ks) (m0 : mm_C E y_TB_copyRow b_TB_copyRow 7 none vl0 vc0 vs0 [mm_rf E (4 + 12 * t3), .int (f (56 + 2 * s1) 4), .int (f (56 + 2 * s1) 5), mm_rf E (n0 + 1), .int (f (56 + 2 * s1) 2)] w f P0) (k1 : ∀ (r : Option Value) (w1 : mm_W) (f1 : mm_F), P0 r w1 f1 → mm_go E Γ 4 103 [(0, mm_rf E n0), (1, mm_rf E (56 + 2 * s1)), (2, .int x2), (3, mm_rf E (4 + 12 * t3))] (r.toList ++ []) w1 f1 (ca + vc0) (sa + vs0)) : mm_go E Γ 4 83 [(0, mm_rf E n0), (1, mm_rf E (56 + 2 * s1)), (2, .int x2), (3, mm_rf E (4 + 12 * t3))] [] w f ca sa := by
  refine mm_aload_n h d_RN_walkOn_83 3 rfl rfl ?_
  refine mm_aload_n h d_RN_walkOn_84 1 rfl rfl ?_
  refine mm_geti h fl_RN_81 rfl (is_S hw hs1) d_RN_walkOn_85 ?_
  refine mm_aload_n h d_RN_walkOn_88 1 rfl rfl ?_
  refine mm_geti h fl_RN_99 rfl (is_S hw hs1) d_RN_walkOn_89 ?_
  refine mm_aload_n h d_RN_walkOn_92 0 rfl rfl ?_
  refine mm_getr h fl_RN_9 rfl hn0.2.1 hn0.2.2.2.2.2.1 hn0.2.2.2.2.2.2.1.1 d_RN_walkOn_93 ?_
  refine mm_aload_n h d_RN_walkOn_96 1 rfl rfl ?_
  refine mm_geti h fl_RN_128 rfl (is_S hw hs1) d_RN_walkOn_97 ?_
  exact mm_callV (As := [.int (f (56 + 2 * s1) 4), .int (f (56 + 2 * s1) 5), mm_rf E (n0 + 1), .int (f (56 + 2 * s1) 2)]) (rest := []) h m0 cv_RN_157 cm_TB_copyRow hl0 (q0 := _) rfl rfl (is_T hw ht3) hu0 hz0 rfl rfl (Nat.le_of_ble_eq_true rfl) d_RN_walkOn_100 (fun r w1 f1 hp => k1 r w1 f1 hp)
theorem s_RN_walkOn_103 {E : mm_E} {Γ : mm_G} {lev kc ks ca sa : Nat} {w : mm_W} {f : mm_F} {Post : Option Value → mm_W → mm_F → Prop} (h : mm_ok E Γ b_RN_walkOn 4 "PlannedTables$Run" lev kc ks) (he : mm_end E Γ (some .int) kc ks Post y_RN_walkOn.name) (hca : ca ≤ kc) (hsa : sa ≤ ks) (hw : mm_sh w) {n0 : Nat} (hn0 : mm_run w n0) {s1 : Nat} (hs1 : s1 < 39) {x2 : Int32} {t3 : Nat} (ht3 : t3 < 4) (k0 : Post (some (.int 1)) w (mm_up f (56 + 2 * s1) 5 ((f (56 + 2 * s1) 5) + 1))) : mm_go E Γ 4 103 [(0, mm_rf E n0), (1, mm_rf E (56 + 2 * s1)), (2, .int x2), (3, mm_rf E (4 + 12 * t3))] [] w f ca sa := by
  refine mm_aload_n h d_RN_walkOn_103 1 rfl rfl ?_
  refine mm_dup h d_RN_walkOn_104 rfl ?_
  refine mm_geti h fl_RN_99 rfl (is_S hw hs1) d_RN_walkOn_105 ?_
  refine mm_iconst (v := 1) h d_RN_walkOn_108 (by decide) ?_
  refine mm_iadd h d_RN_walkOn_109 ?_
  refine mm_puti h fl_RN_99 (Or.inl rfl) rfl rfl rfl (is_S hw hs1) d_RN_walkOn_110 ?_
  refine mm_iconst (v := 1) h d_RN_walkOn_113 (by decide) ?_
  exact mm_iret h he rfl d_RN_walkOn_114 hca hsa k0
theorem d_RN_copyCells_0 : decode b_RN_copyCells 0 = .ok (.iconst (0), 1) := by decide +kernel
theorem d_RN_copyCells_1 : decode b_RN_copyCells 1 = .ok (.istore_n 3, 1) := by decide +kernel
theorem d_RN_copyCells_2 : decode b_RN_copyCells 2 = .ok (.iload_n 3, 1) := by decide +kernel
theorem d_RN_copyCells_3 : decode b_RN_copyCells 3 = .ok (.iload_n 2, 1) := by decide +kernel
theorem d_RN_copyCells_4 : decode b_RN_copyCells 4 = .ok (.if_icmp .ge (15), 3) := by decide +kernel
theorem d_RN_copyCells_7 : decode b_RN_copyCells 7 = .ok (.aload_n 1, 1) := by decide +kernel
theorem d_RN_copyCells_8 : decode b_RN_copyCells 8 = .ok (.iload_n 3, 1) := by decide +kernel
theorem d_RN_copyCells_9 : decode b_RN_copyCells 9 = .ok (.aload_n 0, 1) := by decide +kernel
theorem d_RN_copyCells_10 : decode b_RN_copyCells 10 = .ok (.iload_n 3, 1) := by decide +kernel
theorem d_RN_copyCells_11 : decode b_RN_copyCells 11 = .ok (.iaload, 1) := by decide +kernel
theorem d_RN_copyCells_12 : decode b_RN_copyCells 12 = .ok (.iastore, 1) := by decide +kernel
theorem d_RN_copyCells_13 : decode b_RN_copyCells 13 = .ok (.iinc 3 (1), 3) := by decide +kernel
theorem d_RN_copyCells_16 : decode b_RN_copyCells 16 = .ok (.goto (-14), 3) := by decide +kernel
theorem d_RN_copyCells_19 : decode b_RN_copyCells 19 = .ok (.return_, 1) := by decide +kernel
theorem s_RN_copyCells_0 {E : mm_E} {Γ : mm_G} {lev kc ks ca sa : Nat} {w : mm_W} {f : mm_F} (h : mm_ok E Γ b_RN_copyCells 4 "PlannedTables$Run" lev kc ks) (hw : mm_sh w) {a0 l0 : Nat} (ha0 : mm_ar w a0 100 l0) {a1 l1 : Nat} (ha1 : mm_ar w a1 100 l1) {x2 : Int32} (k0 : mm_go E Γ 4 2 [(0, mm_rf E a0), (1, mm_rf E a1), (2, .int x2), (3, .int 0)] [] w f ca sa) : mm_go E Γ 4 0 [(0, mm_rf E a0), (1, mm_rf E a1), (2, .int x2)] [] w f ca sa := by
  refine mm_iconst (v := 0) h d_RN_copyCells_0 (by decide) ?_
  refine mm_istore_n (lv' := [(3, .int 0), (0, mm_rf E a0), (1, mm_rf E a1), (2, .int x2)]) h d_RN_copyCells_1 rfl (by decide) rfl ?_
  refine mm_sub [1, 2, 3, 0] rfl ?_
  exact k0
theorem s_RN_copyCells_2 {E : mm_E} {Γ : mm_G} {lev kc ks ca sa : Nat} {w : mm_W} {f : mm_F} {Post : Option Value → mm_W → mm_F → Prop} (h : mm_ok E Γ b_RN_copyCells 4 "PlannedTables$Run" lev kc ks) (he : mm_end E Γ none kc ks Post y_RN_copyCells.name) (hca : ca ≤ kc) (hsa : sa ≤ ks) (hw : mm_sh w) {a0 l0 : Nat} (ha0 : mm_ar w a0 100 l0) {a1 l1 : Nat} (ha1 : mm_ar w a1 100 l1) {x2 : Int32} {x3 : Int32} (k0 : x2 ≤ x3 → Post none w f) (b1 : ¬ x2 ≤ x3 → vp_in x3 l0) (b2 : ¬ x2 ≤ x3 → vp_in x3 l1) (k3 : ¬ x2 ≤ x3 → mm_go E Γ 4 2 [(0, mm_rf E a0), (1, mm_rf E a1), (2, .int x2), (3, .int (x3 + 1))] [] w (mm_up f a1 (x3).toNatClampNeg (f a0 (x3).toNatClampNeg)) ca sa) : mm_go E Γ 4 2 [(0, mm_rf E a0), (1, mm_rf E a1), (2, .int x2), (3, .int x3)] [] w f ca sa := by
  refine mm_iload_n h d_RN_copyCells_2 3 rfl rfl ?_
  refine mm_iload_n h d_RN_copyCells_3 2 rfl rfl ?_
  refine mm_icmp_ge h d_RN_copyCells_4 (tgt := 19) (by decide) (fun c1 => ?_) (fun c1 => ?_)
  · skip
    exact mm_vret h he d_RN_copyCells_19 hca hsa (k0 c1)
  · skip
    refine mm_aload_n h d_RN_copyCells_7 1 rfl rfl ?_
    refine mm_iload_n h d_RN_copyCells_8 3 rfl rfl ?_
    refine mm_aload_n h d_RN_copyCells_9 0 rfl rfl ?_
    refine mm_iload_n h d_RN_copyCells_10 3 rfl rfl ?_
    refine mm_iald h ha0 (b1 c1) d_RN_copyCells_11 ?_
    refine mm_iast h ha1 (b2 c1) d_RN_copyCells_12 ?_
    refine mm_iinc (lv' := [(3, .int (x3 + 1)), (0, mm_rf E a0), (1, mm_rf E a1), (2, .int x2)]) h d_RN_copyCells_13 3 rfl (congrArg (fun z => x3 + z) lit1) (by decide) rfl ?_
    refine mm_goto h d_RN_copyCells_16 (tgt := 2) (by decide) ?_
    refine mm_sub [1, 2, 3, 0] rfl ?_
    exact (k3 c1)
theorem d_RN_wordOf_0 : decode b_RN_wordOf 0 = .ok (.aload_n 0, 1) := by decide +kernel
theorem d_RN_wordOf_1 : decode b_RN_wordOf 1 = .ok (.getfield 19, 3) := by decide +kernel
theorem d_RN_wordOf_4 : decode b_RN_wordOf 4 = .ok (.getfield 161, 3) := by decide +kernel
theorem d_RN_wordOf_7 : decode b_RN_wordOf 7 = .ok (.aload_n 1, 1) := by decide +kernel
theorem d_RN_wordOf_8 : decode b_RN_wordOf 8 = .ok (.getfield 164, 3) := by decide +kernel
theorem d_RN_wordOf_11 : decode b_RN_wordOf 11 = .ok (.iload_n 2, 1) := by decide +kernel
theorem d_RN_wordOf_12 : decode b_RN_wordOf 12 = .ok (.iadd, 1) := by decide +kernel
theorem d_RN_wordOf_13 : decode b_RN_wordOf 13 = .ok (.iaload, 1) := by decide +kernel
theorem d_RN_wordOf_14 : decode b_RN_wordOf 14 = .ok (.ireturn, 1) := by decide +kernel
theorem s_RN_wordOf_0 {E : mm_E} {Γ : mm_G} {lev kc ks ca sa : Nat} {w : mm_W} {f : mm_F} {Post : Option Value → mm_W → mm_F → Prop} (h : mm_ok E Γ b_RN_wordOf 3 "PlannedTables$Run" lev kc ks) (he : mm_end E Γ (some .int) kc ks Post y_RN_wordOf.name) (hca : ca ≤ kc) (hsa : sa ≤ ks) (hw : mm_sh w) {n0 : Nat} (hn0 : mm_run w n0) {s1 : Nat} (hs1 : s1 < 39) {x2 : Int32} (b0 : vp_in ((f (56 + 2 * s1) 1) + x2) 40) (k1 : Post (some (.int (f 54 (((f (56 + 2 * s1) 1) + x2)).toNatClampNeg))) w f) : mm_go E Γ 3 0 [(0, mm_rf E n0), (1, mm_rf E (56 + 2 * s1)), (2, .int x2)] [] w f ca sa := by
  refine mm_aload_n h d_RN_wordOf_0 0 rfl rfl ?_
  refine mm_getr h fl_RN_19 rfl hn0.2.1 hn0.2.2.2.1 (is_PL hw).1 d_RN_wordOf_1 ?_
  refine mm_getr h fl_RN_161 rfl (is_PL hw) (rf_PL_words hw) (is_WD hw).1.1 d_RN_wordOf_4 ?_
  refine mm_aload_n h d_RN_wordOf_7 1 rfl rfl ?_
  refine mm_geti h fl_RN_164 rfl (is_S hw hs1) d_RN_wordOf_8 ?_
  refine mm_iload_n h d_RN_wordOf_11 2 rfl rfl ?_
  refine mm_iadd h d_RN_wordOf_12 ?_
  refine mm_iald h (is_WD hw) b0 d_RN_wordOf_13 ?_
  exact mm_iret h he rfl d_RN_wordOf_14 hca hsa k1
theorem d_RN_cellOf_0 : decode b_RN_cellOf 0 = .ok (.aload_n 0, 1) := by decide +kernel
theorem d_RN_cellOf_1 : decode b_RN_cellOf 1 = .ok (.getfield 9, 3) := by decide +kernel
theorem d_RN_cellOf_4 : decode b_RN_cellOf 4 = .ok (.aload_n 0, 1) := by decide +kernel
theorem d_RN_cellOf_5 : decode b_RN_cellOf 5 = .ok (.aload_n 1, 1) := by decide +kernel
theorem d_RN_cellOf_6 : decode b_RN_cellOf 6 = .ok (.iload_n 2, 1) := by decide +kernel
theorem d_RN_cellOf_7 : decode b_RN_cellOf 7 = .ok (.invokevirtual 75, 3) := by decide +kernel
theorem d_RN_cellOf_10 : decode b_RN_cellOf 10 = .ok (.iaload, 1) := by decide +kernel
theorem d_RN_cellOf_11 : decode b_RN_cellOf 11 = .ok (.ireturn, 1) := by decide +kernel
theorem s_RN_cellOf_0 {E : mm_E} {Γ : mm_G} {lev kc ks ca sa : Nat} {w : mm_W} {f : mm_F} (h : mm_ok E Γ b_RN_cellOf 3 "PlannedTables$Run" lev kc ks) (hw : mm_sh w) {n0 : Nat} (hn0 : mm_run w n0) {s1 : Nat} (hs1 : s1 < 39) {x2 : Int32} {vl0 vc0 vs0 : Nat} {P0 : Option Value → mm_W → mm_F → Prop} (hl0 : vl0 < lev) (hu0 : ca + vc0 ≤ kc) (hz0 : sa + vs0 ≤ ks) (m0 : mm_C E y_RN_wordOf b_RN_wordOf 3 (some .int) vl0 vc0 vs0 [mm_rf E n0, mm_rf E (56 + 2 * s1), .int x2] w f P0) (k1 : ∀ (r : Option Value) (w1 : mm_W) (f1 : mm_F), P0 r w1 f1 → mm_go E Γ 3 10 [(0, mm_rf E n0), (1, mm_rf E (56 + 2 * s1)), (2, .int x2)] (r.toList ++ [mm_rf E (n0 + 1)]) w1 f1 (ca + vc0) (sa + vs0)) : mm_go E Γ 3 0 [(0, mm_rf E n0), (1, mm_rf E (56 + 2 * s1)), (2, .int x2)] [] w f ca sa := by
  refine mm_aload_n h d_RN_cellOf_0 0 rfl rfl ?_
  refine mm_getr h fl_RN_9 rfl hn0.2.1 hn0.2.2.2.2.2.1 hn0.2.2.2.2.2.2.1.1 d_RN_cellOf_1 ?_
  refine mm_aload_n h d_RN_cellOf_4 0 rfl rfl ?_
  refine mm_aload_n h d_RN_cellOf_5 1 rfl rfl ?_
  refine mm_iload_n h d_RN_cellOf_6 2 rfl rfl ?_
  exact mm_callV (As := [mm_rf E (56 + 2 * s1), .int x2]) (rest := [mm_rf E (n0 + 1)]) h m0 cv_RN_75 cm_RN_wordOf hl0 (q0 := _) rfl rfl hn0.2.1 hu0 hz0 rfl rfl (Nat.le_of_ble_eq_true rfl) d_RN_cellOf_7 (fun r w1 f1 hp => k1 r w1 f1 hp)
theorem s_RN_cellOf_10 {E : mm_E} {Γ : mm_G} {lev kc ks ca sa : Nat} {w : mm_W} {f : mm_F} {Post : Option Value → mm_W → mm_F → Prop} (h : mm_ok E Γ b_RN_cellOf 3 "PlannedTables$Run" lev kc ks) (he : mm_end E Γ (some .int) kc ks Post y_RN_cellOf.name) (hca : ca ≤ kc) (hsa : sa ≤ ks) (hw : mm_sh w) {n0 : Nat} (hn0 : mm_run w n0) {s1 : Nat} (hs1 : s1 < 39) {x2 : Int32} {nk0 : Nat} (hnk0 : mm_run w nk0) {xk1 : Int32} (b0 : vp_in xk1 8) (k1 : Post (some (.int (f (nk0 + 1) (xk1).toNatClampNeg))) w f) : mm_go E Γ 3 10 [(0, mm_rf E n0), (1, mm_rf E (56 + 2 * s1)), (2, .int x2)] [.int xk1, mm_rf E (nk0 + 1)] w f ca sa := by
  refine mm_iald h hnk0.2.2.2.2.2.2 b0 d_RN_cellOf_10 ?_
  exact mm_iret h he rfl d_RN_cellOf_11 hca hsa k1
theorem d_RN_holds_0 : decode b_RN_holds 0 = .ok (.iload_n 1, 1) := by decide +kernel
theorem d_RN_holds_1 : decode b_RN_holds 1 = .ok (.tableswitch (105) (0) (5) #[(39), (50), (61), (72), (83), (94)], 39) := by decide +kernel
theorem d_RN_holds_40 : decode b_RN_holds 40 = .ok (.iload_n 0, 1) := by decide +kernel
theorem d_RN_holds_41 : decode b_RN_holds 41 = .ok (.iload_n 2, 1) := by decide +kernel
theorem d_RN_holds_42 : decode b_RN_holds 42 = .ok (.if_icmp .ge (7), 3) := by decide +kernel
theorem d_RN_holds_45 : decode b_RN_holds 45 = .ok (.iconst (1), 1) := by decide +kernel
theorem d_RN_holds_46 : decode b_RN_holds 46 = .ok (.goto (4), 3) := by decide +kernel
theorem d_RN_holds_49 : decode b_RN_holds 49 = .ok (.iconst (0), 1) := by decide +kernel
theorem d_RN_holds_50 : decode b_RN_holds 50 = .ok (.ireturn, 1) := by decide +kernel
theorem d_RN_holds_51 : decode b_RN_holds 51 = .ok (.iload_n 0, 1) := by decide +kernel
theorem d_RN_holds_52 : decode b_RN_holds 52 = .ok (.iload_n 2, 1) := by decide +kernel
theorem d_RN_holds_53 : decode b_RN_holds 53 = .ok (.if_icmp .gt (7), 3) := by decide +kernel
theorem d_RN_holds_56 : decode b_RN_holds 56 = .ok (.iconst (1), 1) := by decide +kernel
theorem d_RN_holds_57 : decode b_RN_holds 57 = .ok (.goto (4), 3) := by decide +kernel
theorem d_RN_holds_60 : decode b_RN_holds 60 = .ok (.iconst (0), 1) := by decide +kernel
theorem d_RN_holds_61 : decode b_RN_holds 61 = .ok (.ireturn, 1) := by decide +kernel
theorem d_RN_holds_62 : decode b_RN_holds 62 = .ok (.iload_n 0, 1) := by decide +kernel
theorem d_RN_holds_63 : decode b_RN_holds 63 = .ok (.iload_n 2, 1) := by decide +kernel
theorem d_RN_holds_64 : decode b_RN_holds 64 = .ok (.if_icmp .ne (7), 3) := by decide +kernel
theorem d_RN_holds_67 : decode b_RN_holds 67 = .ok (.iconst (1), 1) := by decide +kernel
theorem d_RN_holds_68 : decode b_RN_holds 68 = .ok (.goto (4), 3) := by decide +kernel
theorem d_RN_holds_71 : decode b_RN_holds 71 = .ok (.iconst (0), 1) := by decide +kernel
theorem d_RN_holds_72 : decode b_RN_holds 72 = .ok (.ireturn, 1) := by decide +kernel
theorem d_RN_holds_73 : decode b_RN_holds 73 = .ok (.iload_n 0, 1) := by decide +kernel
theorem d_RN_holds_74 : decode b_RN_holds 74 = .ok (.iload_n 2, 1) := by decide +kernel
theorem d_RN_holds_75 : decode b_RN_holds 75 = .ok (.if_icmp .eq (7), 3) := by decide +kernel
theorem d_RN_holds_78 : decode b_RN_holds 78 = .ok (.iconst (1), 1) := by decide +kernel
theorem d_RN_holds_79 : decode b_RN_holds 79 = .ok (.goto (4), 3) := by decide +kernel
theorem d_RN_holds_82 : decode b_RN_holds 82 = .ok (.iconst (0), 1) := by decide +kernel
theorem d_RN_holds_83 : decode b_RN_holds 83 = .ok (.ireturn, 1) := by decide +kernel
theorem d_RN_holds_84 : decode b_RN_holds 84 = .ok (.iload_n 0, 1) := by decide +kernel
theorem d_RN_holds_85 : decode b_RN_holds 85 = .ok (.iload_n 2, 1) := by decide +kernel
theorem d_RN_holds_86 : decode b_RN_holds 86 = .ok (.if_icmp .lt (7), 3) := by decide +kernel
theorem d_RN_holds_89 : decode b_RN_holds 89 = .ok (.iconst (1), 1) := by decide +kernel
theorem d_RN_holds_90 : decode b_RN_holds 90 = .ok (.goto (4), 3) := by decide +kernel
theorem d_RN_holds_93 : decode b_RN_holds 93 = .ok (.iconst (0), 1) := by decide +kernel
theorem d_RN_holds_94 : decode b_RN_holds 94 = .ok (.ireturn, 1) := by decide +kernel
theorem d_RN_holds_95 : decode b_RN_holds 95 = .ok (.iload_n 0, 1) := by decide +kernel
theorem d_RN_holds_96 : decode b_RN_holds 96 = .ok (.iload_n 2, 1) := by decide +kernel
theorem d_RN_holds_97 : decode b_RN_holds 97 = .ok (.if_icmp .le (7), 3) := by decide +kernel
theorem d_RN_holds_100 : decode b_RN_holds 100 = .ok (.iconst (1), 1) := by decide +kernel
theorem d_RN_holds_101 : decode b_RN_holds 101 = .ok (.goto (4), 3) := by decide +kernel
theorem d_RN_holds_104 : decode b_RN_holds 104 = .ok (.iconst (0), 1) := by decide +kernel
theorem d_RN_holds_105 : decode b_RN_holds 105 = .ok (.ireturn, 1) := by decide +kernel
theorem d_RN_holds_106 : decode b_RN_holds 106 = .ok (.iconst (0), 1) := by decide +kernel
theorem d_RN_holds_107 : decode b_RN_holds 107 = .ok (.ireturn, 1) := by decide +kernel
theorem s_RN_holds_0 {E : mm_E} {Γ : mm_G} {lev kc ks ca sa : Nat} {w : mm_W} {f : mm_F} (h : mm_ok E Γ b_RN_holds 3 "PlannedTables$Run" lev kc ks) (hw : mm_sh w) {x0 : Int32} {x1 : Int32} {x2 : Int32} (k0 : x1 = 0 → mm_go E Γ 3 40 [(0, .int x0), (1, .int x1), (2, .int x2)] [] w f ca sa) (k1 : ¬ x1 = 0 → x1 = 1 → mm_go E Γ 3 51 [(0, .int x0), (1, .int x1), (2, .int x2)] [] w f ca sa) (k2 : ¬ x1 = 0 → ¬ x1 = 1 → x1 = 2 → mm_go E Γ 3 62 [(0, .int x0), (1, .int x1), (2, .int x2)] [] w f ca sa) (k3 : ¬ x1 = 0 → ¬ x1 = 1 → ¬ x1 = 2 → x1 = 3 → mm_go E Γ 3 73 [(0, .int x0), (1, .int x1), (2, .int x2)] [] w f ca sa) (k4 : ¬ x1 = 0 → ¬ x1 = 1 → ¬ x1 = 2 → ¬ x1 = 3 → x1 = 4 → mm_go E Γ 3 84 [(0, .int x0), (1, .int x1), (2, .int x2)] [] w f ca sa) (k5 : ¬ x1 = 0 → ¬ x1 = 1 → ¬ x1 = 2 → ¬ x1 = 3 → ¬ x1 = 4 → x1 = 5 → mm_go E Γ 3 95 [(0, .int x0), (1, .int x1), (2, .int x2)] [] w f ca sa) (k6 : ¬ x1 = 0 → ¬ x1 = 1 → ¬ x1 = 2 → ¬ x1 = 3 → ¬ x1 = 4 → ¬ x1 = 5 → mm_go E Γ 3 106 [(0, .int x0), (1, .int x1), (2, .int x2)] [] w f ca sa) : mm_go E Γ 3 0 [(0, .int x0), (1, .int x1), (2, .int x2)] [] w f ca sa := by
  refine mm_iload_n h d_RN_holds_0 1 rfl rfl ?_
  by_cases c1 : x1 = 0
  · refine mm_tin h d_RN_holds_1 (by rw [c1]; decide) (by rw [c1]; decide) (off := 39) (by rw [c1]; rfl) (tgt := 40) (by decide) ?_
    exact (k0 c1)
  by_cases c2 : x1 = 1
  · refine mm_tin h d_RN_holds_1 (by rw [c2]; decide) (by rw [c2]; decide) (off := 50) (by rw [c2]; rfl) (tgt := 51) (by decide) ?_
    exact (k1 c1 c2)
  by_cases c3 : x1 = 2
  · refine mm_tin h d_RN_holds_1 (by rw [c3]; decide) (by rw [c3]; decide) (off := 61) (by rw [c3]; rfl) (tgt := 62) (by decide) ?_
    exact (k2 c1 c2 c3)
  by_cases c4 : x1 = 3
  · refine mm_tin h d_RN_holds_1 (by rw [c4]; decide) (by rw [c4]; decide) (off := 72) (by rw [c4]; rfl) (tgt := 73) (by decide) ?_
    exact (k3 c1 c2 c3 c4)
  by_cases c5 : x1 = 4
  · refine mm_tin h d_RN_holds_1 (by rw [c5]; decide) (by rw [c5]; decide) (off := 83) (by rw [c5]; rfl) (tgt := 84) (by decide) ?_
    exact (k4 c1 c2 c3 c4 c5)
  by_cases c6 : x1 = 5
  · refine mm_tin h d_RN_holds_1 (by rw [c6]; decide) (by rw [c6]; decide) (off := 94) (by rw [c6]; rfl) (tgt := 95) (by decide) ?_
    exact (k5 c1 c2 c3 c4 c5 c6)
  refine mm_tout h d_RN_holds_1 (by have q0 := mm_ne 0 0 (by decide) c1; have q1 := mm_ne 1 1 (by decide) c2; have q2 := mm_ne 2 2 (by decide) c3; have q3 := mm_ne 3 3 (by decide) c4; have q4 := mm_ne 4 4 (by decide) c5; have q5 := mm_ne 5 5 (by decide) c6; omega) (tgt := 106) (by decide) ?_
  exact (k6 c1 c2 c3 c4 c5 c6)
theorem s_RN_holds_40 {E : mm_E} {Γ : mm_G} {lev kc ks ca sa : Nat} {w : mm_W} {f : mm_F} (h : mm_ok E Γ b_RN_holds 3 "PlannedTables$Run" lev kc ks) (hw : mm_sh w) {x0 : Int32} {x1 : Int32} {x2 : Int32} (k0 : x2 ≤ x0 → mm_go E Γ 3 50 [(0, .int x0), (1, .int x1), (2, .int x2)] [.int 0] w f ca sa) (k1 : ¬ x2 ≤ x0 → mm_go E Γ 3 50 [(0, .int x0), (1, .int x1), (2, .int x2)] [.int 1] w f ca sa) : mm_go E Γ 3 40 [(0, .int x0), (1, .int x1), (2, .int x2)] [] w f ca sa := by
  refine mm_iload_n h d_RN_holds_40 0 rfl rfl ?_
  refine mm_iload_n h d_RN_holds_41 2 rfl rfl ?_
  refine mm_icmp_ge h d_RN_holds_42 (tgt := 49) (by decide) (fun c1 => ?_) (fun c1 => ?_)
  · skip
    refine mm_iconst (v := 0) h d_RN_holds_49 (by decide) ?_
    exact (k0 c1)
  · skip
    refine mm_iconst (v := 1) h d_RN_holds_45 (by decide) ?_
    refine mm_goto h d_RN_holds_46 (tgt := 50) (by decide) ?_
    exact (k1 c1)
theorem s_RN_holds_50 {E : mm_E} {Γ : mm_G} {lev kc ks ca sa : Nat} {w : mm_W} {f : mm_F} {Post : Option Value → mm_W → mm_F → Prop} (h : mm_ok E Γ b_RN_holds 3 "PlannedTables$Run" lev kc ks) (he : mm_end E Γ (some .boolean) kc ks Post y_RN_holds.name) (hca : ca ≤ kc) (hsa : sa ≤ ks) (hw : mm_sh w) {x0 : Int32} {x1 : Int32} {x2 : Int32} {xk0 : Int32} (k0 : Post (some (.int xk0)) w f) (n1 : narrow .boolean (.int xk0) = .int xk0) : mm_go E Γ 3 50 [(0, .int x0), (1, .int x1), (2, .int x2)] [.int xk0] w f ca sa := by
  exact mm_iret h he n1 d_RN_holds_50 hca hsa k0
theorem s_RN_holds_51 {E : mm_E} {Γ : mm_G} {lev kc ks ca sa : Nat} {w : mm_W} {f : mm_F} (h : mm_ok E Γ b_RN_holds 3 "PlannedTables$Run" lev kc ks) (hw : mm_sh w) {x0 : Int32} {x1 : Int32} {x2 : Int32} (k0 : x2 < x0 → mm_go E Γ 3 61 [(0, .int x0), (1, .int x1), (2, .int x2)] [.int 0] w f ca sa) (k1 : ¬ x2 < x0 → mm_go E Γ 3 61 [(0, .int x0), (1, .int x1), (2, .int x2)] [.int 1] w f ca sa) : mm_go E Γ 3 51 [(0, .int x0), (1, .int x1), (2, .int x2)] [] w f ca sa := by
  refine mm_iload_n h d_RN_holds_51 0 rfl rfl ?_
  refine mm_iload_n h d_RN_holds_52 2 rfl rfl ?_
  refine mm_icmp_gt h d_RN_holds_53 (tgt := 60) (by decide) (fun c1 => ?_) (fun c1 => ?_)
  · skip
    refine mm_iconst (v := 0) h d_RN_holds_60 (by decide) ?_
    exact (k0 c1)
  · skip
    refine mm_iconst (v := 1) h d_RN_holds_56 (by decide) ?_
    refine mm_goto h d_RN_holds_57 (tgt := 61) (by decide) ?_
    exact (k1 c1)
theorem s_RN_holds_61 {E : mm_E} {Γ : mm_G} {lev kc ks ca sa : Nat} {w : mm_W} {f : mm_F} {Post : Option Value → mm_W → mm_F → Prop} (h : mm_ok E Γ b_RN_holds 3 "PlannedTables$Run" lev kc ks) (he : mm_end E Γ (some .boolean) kc ks Post y_RN_holds.name) (hca : ca ≤ kc) (hsa : sa ≤ ks) (hw : mm_sh w) {x0 : Int32} {x1 : Int32} {x2 : Int32} {xk0 : Int32} (k0 : Post (some (.int xk0)) w f) (n1 : narrow .boolean (.int xk0) = .int xk0) : mm_go E Γ 3 61 [(0, .int x0), (1, .int x1), (2, .int x2)] [.int xk0] w f ca sa := by
  exact mm_iret h he n1 d_RN_holds_61 hca hsa k0
theorem s_RN_holds_62 {E : mm_E} {Γ : mm_G} {lev kc ks ca sa : Nat} {w : mm_W} {f : mm_F} (h : mm_ok E Γ b_RN_holds 3 "PlannedTables$Run" lev kc ks) (hw : mm_sh w) {x0 : Int32} {x1 : Int32} {x2 : Int32} (k0 : ¬ x0 = x2 → mm_go E Γ 3 72 [(0, .int x0), (1, .int x1), (2, .int x2)] [.int 0] w f ca sa) (k1 : x0 = x2 → mm_go E Γ 3 72 [(0, .int x0), (1, .int x1), (2, .int x2)] [.int 1] w f ca sa) : mm_go E Γ 3 62 [(0, .int x0), (1, .int x1), (2, .int x2)] [] w f ca sa := by
  refine mm_iload_n h d_RN_holds_62 0 rfl rfl ?_
  refine mm_iload_n h d_RN_holds_63 2 rfl rfl ?_
  refine mm_icmp_ne h d_RN_holds_64 (tgt := 71) (by decide) (fun c1 => ?_) (fun c1 => ?_)
  · skip
    refine mm_iconst (v := 0) h d_RN_holds_71 (by decide) ?_
    exact (k0 c1)
  · skip
    refine mm_iconst (v := 1) h d_RN_holds_67 (by decide) ?_
    refine mm_goto h d_RN_holds_68 (tgt := 72) (by decide) ?_
    exact (k1 c1)
theorem s_RN_holds_72 {E : mm_E} {Γ : mm_G} {lev kc ks ca sa : Nat} {w : mm_W} {f : mm_F} {Post : Option Value → mm_W → mm_F → Prop} (h : mm_ok E Γ b_RN_holds 3 "PlannedTables$Run" lev kc ks) (he : mm_end E Γ (some .boolean) kc ks Post y_RN_holds.name) (hca : ca ≤ kc) (hsa : sa ≤ ks) (hw : mm_sh w) {x0 : Int32} {x1 : Int32} {x2 : Int32} {xk0 : Int32} (k0 : Post (some (.int xk0)) w f) (n1 : narrow .boolean (.int xk0) = .int xk0) : mm_go E Γ 3 72 [(0, .int x0), (1, .int x1), (2, .int x2)] [.int xk0] w f ca sa := by
  exact mm_iret h he n1 d_RN_holds_72 hca hsa k0
theorem s_RN_holds_73 {E : mm_E} {Γ : mm_G} {lev kc ks ca sa : Nat} {w : mm_W} {f : mm_F} (h : mm_ok E Γ b_RN_holds 3 "PlannedTables$Run" lev kc ks) (hw : mm_sh w) {x0 : Int32} {x1 : Int32} {x2 : Int32} (k0 : x0 = x2 → mm_go E Γ 3 83 [(0, .int x0), (1, .int x1), (2, .int x2)] [.int 0] w f ca sa) (k1 : ¬ x0 = x2 → mm_go E Γ 3 83 [(0, .int x0), (1, .int x1), (2, .int x2)] [.int 1] w f ca sa) : mm_go E Γ 3 73 [(0, .int x0), (1, .int x1), (2, .int x2)] [] w f ca sa := by
  refine mm_iload_n h d_RN_holds_73 0 rfl rfl ?_
  refine mm_iload_n h d_RN_holds_74 2 rfl rfl ?_
  refine mm_icmp_eq h d_RN_holds_75 (tgt := 82) (by decide) (fun c1 => ?_) (fun c1 => ?_)
  · skip
    refine mm_iconst (v := 0) h d_RN_holds_82 (by decide) ?_
    exact (k0 c1)
  · skip
    refine mm_iconst (v := 1) h d_RN_holds_78 (by decide) ?_
    refine mm_goto h d_RN_holds_79 (tgt := 83) (by decide) ?_
    exact (k1 c1)
theorem s_RN_holds_83 {E : mm_E} {Γ : mm_G} {lev kc ks ca sa : Nat} {w : mm_W} {f : mm_F} {Post : Option Value → mm_W → mm_F → Prop} (h : mm_ok E Γ b_RN_holds 3 "PlannedTables$Run" lev kc ks) (he : mm_end E Γ (some .boolean) kc ks Post y_RN_holds.name) (hca : ca ≤ kc) (hsa : sa ≤ ks) (hw : mm_sh w) {x0 : Int32} {x1 : Int32} {x2 : Int32} {xk0 : Int32} (k0 : Post (some (.int xk0)) w f) (n1 : narrow .boolean (.int xk0) = .int xk0) : mm_go E Γ 3 83 [(0, .int x0), (1, .int x1), (2, .int x2)] [.int xk0] w f ca sa := by
  exact mm_iret h he n1 d_RN_holds_83 hca hsa k0
theorem s_RN_holds_84 {E : mm_E} {Γ : mm_G} {lev kc ks ca sa : Nat} {w : mm_W} {f : mm_F} (h : mm_ok E Γ b_RN_holds 3 "PlannedTables$Run" lev kc ks) (hw : mm_sh w) {x0 : Int32} {x1 : Int32} {x2 : Int32} (k0 : x0 < x2 → mm_go E Γ 3 94 [(0, .int x0), (1, .int x1), (2, .int x2)] [.int 0] w f ca sa) (k1 : ¬ x0 < x2 → mm_go E Γ 3 94 [(0, .int x0), (1, .int x1), (2, .int x2)] [.int 1] w f ca sa) : mm_go E Γ 3 84 [(0, .int x0), (1, .int x1), (2, .int x2)] [] w f ca sa := by
  refine mm_iload_n h d_RN_holds_84 0 rfl rfl ?_
  refine mm_iload_n h d_RN_holds_85 2 rfl rfl ?_
  refine mm_icmp_lt h d_RN_holds_86 (tgt := 93) (by decide) (fun c1 => ?_) (fun c1 => ?_)
  · skip
    refine mm_iconst (v := 0) h d_RN_holds_93 (by decide) ?_
    exact (k0 c1)
  · skip
    refine mm_iconst (v := 1) h d_RN_holds_89 (by decide) ?_
    refine mm_goto h d_RN_holds_90 (tgt := 94) (by decide) ?_
    exact (k1 c1)
theorem s_RN_holds_94 {E : mm_E} {Γ : mm_G} {lev kc ks ca sa : Nat} {w : mm_W} {f : mm_F} {Post : Option Value → mm_W → mm_F → Prop} (h : mm_ok E Γ b_RN_holds 3 "PlannedTables$Run" lev kc ks) (he : mm_end E Γ (some .boolean) kc ks Post y_RN_holds.name) (hca : ca ≤ kc) (hsa : sa ≤ ks) (hw : mm_sh w) {x0 : Int32} {x1 : Int32} {x2 : Int32} {xk0 : Int32} (k0 : Post (some (.int xk0)) w f) (n1 : narrow .boolean (.int xk0) = .int xk0) : mm_go E Γ 3 94 [(0, .int x0), (1, .int x1), (2, .int x2)] [.int xk0] w f ca sa := by
  exact mm_iret h he n1 d_RN_holds_94 hca hsa k0
theorem s_RN_holds_95 {E : mm_E} {Γ : mm_G} {lev kc ks ca sa : Nat} {w : mm_W} {f : mm_F} (h : mm_ok E Γ b_RN_holds 3 "PlannedTables$Run" lev kc ks) (hw : mm_sh w) {x0 : Int32} {x1 : Int32} {x2 : Int32} (k0 : x0 ≤ x2 → mm_go E Γ 3 105 [(0, .int x0), (1, .int x1), (2, .int x2)] [.int 0] w f ca sa) (k1 : ¬ x0 ≤ x2 → mm_go E Γ 3 105 [(0, .int x0), (1, .int x1), (2, .int x2)] [.int 1] w f ca sa) : mm_go E Γ 3 95 [(0, .int x0), (1, .int x1), (2, .int x2)] [] w f ca sa := by
  refine mm_iload_n h d_RN_holds_95 0 rfl rfl ?_
  refine mm_iload_n h d_RN_holds_96 2 rfl rfl ?_
  refine mm_icmp_le h d_RN_holds_97 (tgt := 104) (by decide) (fun c1 => ?_) (fun c1 => ?_)
  · skip
    refine mm_iconst (v := 0) h d_RN_holds_104 (by decide) ?_
    exact (k0 c1)
  · skip
    refine mm_iconst (v := 1) h d_RN_holds_100 (by decide) ?_
    refine mm_goto h d_RN_holds_101 (tgt := 105) (by decide) ?_
    exact (k1 c1)
theorem s_RN_holds_105 {E : mm_E} {Γ : mm_G} {lev kc ks ca sa : Nat} {w : mm_W} {f : mm_F} {Post : Option Value → mm_W → mm_F → Prop} (h : mm_ok E Γ b_RN_holds 3 "PlannedTables$Run" lev kc ks) (he : mm_end E Γ (some .boolean) kc ks Post y_RN_holds.name) (hca : ca ≤ kc) (hsa : sa ≤ ks) (hw : mm_sh w) {x0 : Int32} {x1 : Int32} {x2 : Int32} {xk0 : Int32} (k0 : Post (some (.int xk0)) w f) (n1 : narrow .boolean (.int xk0) = .int xk0) : mm_go E Γ 3 105 [(0, .int x0), (1, .int x1), (2, .int x2)] [.int xk0] w f ca sa := by
  exact mm_iret h he n1 d_RN_holds_105 hca hsa k0
theorem s_RN_holds_106 {E : mm_E} {Γ : mm_G} {lev kc ks ca sa : Nat} {w : mm_W} {f : mm_F} {Post : Option Value → mm_W → mm_F → Prop} (h : mm_ok E Γ b_RN_holds 3 "PlannedTables$Run" lev kc ks) (he : mm_end E Γ (some .boolean) kc ks Post y_RN_holds.name) (hca : ca ≤ kc) (hsa : sa ≤ ks) (hw : mm_sh w) {x0 : Int32} {x1 : Int32} {x2 : Int32} (k0 : Post (some (.int 0)) w f) : mm_go E Γ 3 106 [(0, .int x0), (1, .int x1), (2, .int x2)] [] w f ca sa := by
  refine mm_iconst (v := 0) h d_RN_holds_106 (by decide) ?_
  exact mm_iret h he rfl d_RN_holds_107 hca hsa k0
