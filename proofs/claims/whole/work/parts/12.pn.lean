/-! Segments. -/
theorem d_PN_lookThrough_0 : decode b_PN_lookThrough 0 = .ok (.aload_n 0, 1) := by decide +kernel
theorem d_PN_lookThrough_1 : decode b_PN_lookThrough 1 = .ok (.iconst (-1), 1) := by decide +kernel
theorem d_PN_lookThrough_2 : decode b_PN_lookThrough 2 = .ok (.putfield 22, 3) := by decide +kernel
theorem d_PN_lookThrough_5 : decode b_PN_lookThrough 5 = .ok (.aload_n 0, 1) := by decide +kernel
theorem d_PN_lookThrough_6 : decode b_PN_lookThrough 6 = .ok (.iconst (0), 1) := by decide +kernel
theorem d_PN_lookThrough_7 : decode b_PN_lookThrough 7 = .ok (.putfield 26, 3) := by decide +kernel
theorem d_PN_lookThrough_10 : decode b_PN_lookThrough 10 = .ok (.aload_n 0, 1) := by decide +kernel
theorem d_PN_lookThrough_11 : decode b_PN_lookThrough 11 = .ok (.iconst (0), 1) := by decide +kernel
theorem d_PN_lookThrough_12 : decode b_PN_lookThrough 12 = .ok (.putfield 29, 3) := by decide +kernel
theorem d_PN_lookThrough_15 : decode b_PN_lookThrough 15 = .ok (.aload_n 0, 1) := by decide +kernel
theorem d_PN_lookThrough_16 : decode b_PN_lookThrough 16 = .ok (.iconst (0), 1) := by decide +kernel
theorem d_PN_lookThrough_17 : decode b_PN_lookThrough 17 = .ok (.putfield 32, 3) := by decide +kernel
theorem d_PN_lookThrough_20 : decode b_PN_lookThrough 20 = .ok (.aload_n 0, 1) := by decide +kernel
theorem d_PN_lookThrough_21 : decode b_PN_lookThrough 21 = .ok (.aload_n 1, 1) := by decide +kernel
theorem d_PN_lookThrough_22 : decode b_PN_lookThrough 22 = .ok (.invokevirtual 35, 3) := by decide +kernel
theorem d_PN_lookThrough_25 : decode b_PN_lookThrough 25 = .ok (.iconst (1), 1) := by decide +kernel
theorem d_PN_lookThrough_26 : decode b_PN_lookThrough 26 = .ok (.istore_n 2, 1) := by decide +kernel
theorem d_PN_lookThrough_27 : decode b_PN_lookThrough 27 = .ok (.iload_n 2, 1) := by decide +kernel
theorem d_PN_lookThrough_28 : decode b_PN_lookThrough 28 = .ok (.bipush (39), 2) := by decide +kernel
theorem d_PN_lookThrough_30 : decode b_PN_lookThrough 30 = .ok (.if_icmp .ge (33), 3) := by decide +kernel
theorem d_PN_lookThrough_33 : decode b_PN_lookThrough 33 = .ok (.aload_n 0, 1) := by decide +kernel
theorem d_PN_lookThrough_34 : decode b_PN_lookThrough 34 = .ok (.getfield 32, 3) := by decide +kernel
theorem d_PN_lookThrough_37 : decode b_PN_lookThrough 37 = .ok (.aload_n 0, 1) := by decide +kernel
theorem d_PN_lookThrough_38 : decode b_PN_lookThrough 38 = .ok (.getfield 39, 3) := by decide +kernel
theorem d_PN_lookThrough_41 : decode b_PN_lookThrough 41 = .ok (.if_icmp .ge (22), 3) := by decide +kernel
theorem d_PN_lookThrough_44 : decode b_PN_lookThrough 44 = .ok (.aload_n 0, 1) := by decide +kernel
theorem d_PN_lookThrough_45 : decode b_PN_lookThrough 45 = .ok (.getfield 22, 3) := by decide +kernel
theorem d_PN_lookThrough_48 : decode b_PN_lookThrough 48 = .ok (.iconst (-1), 1) := by decide +kernel
theorem d_PN_lookThrough_49 : decode b_PN_lookThrough 49 = .ok (.if_icmp .ne (14), 3) := by decide +kernel
theorem d_PN_lookThrough_52 : decode b_PN_lookThrough 52 = .ok (.aload_n 0, 1) := by decide +kernel
theorem d_PN_lookThrough_53 : decode b_PN_lookThrough 53 = .ok (.aload_n 1, 1) := by decide +kernel
theorem d_PN_lookThrough_54 : decode b_PN_lookThrough 54 = .ok (.invokevirtual 42, 3) := by decide +kernel
theorem d_PN_lookThrough_57 : decode b_PN_lookThrough 57 = .ok (.iinc 2 (1), 3) := by decide +kernel
theorem d_PN_lookThrough_60 : decode b_PN_lookThrough 60 = .ok (.goto (-33), 3) := by decide +kernel
theorem d_PN_lookThrough_63 : decode b_PN_lookThrough 63 = .ok (.return_, 1) := by decide +kernel
theorem s_PN_lookThrough_0 {E : mm_E} {Γ : mm_G} {lev kc ks ca sa : Nat} {w : mm_W} {f : mm_F} (h : mm_ok E Γ b_PN_lookThrough 3 "PlannedTables$Plan" lev kc ks) (hw : mm_sh w)  {vl0 vc0 vs0 : Nat} {P0 : Option Value → mm_W → mm_F → Prop} (hl0 : vl0 < lev) (hu0 : ca + vc0 ≤ kc) (hz0 : sa + vs0 ≤ ks) (m0 : mm_C E y_PN_lookAtSource b_PN_lookAtSource 4 none vl0 vc0 vs0 [mm_rf E 53, mm_rf E 2] w (mm_up (mm_up (mm_up (mm_up f 53 2 (-1)) 53 3 0) 53 4 0) 53 6 0) P0) (k1 : ∀ (r : Option Value) (w1 : mm_W) (f1 : mm_F), P0 r w1 f1 → mm_go E Γ 3 25 [(0, mm_rf E 53), (1, mm_rf E 2)] (r.toList ++ []) w1 f1 (ca + vc0) (sa + vs0)) : mm_go E Γ 3 0 [(0, mm_rf E 53), (1, mm_rf E 2)] [] w f ca sa := by
  refine mm_aload_n h d_PN_lookThrough_0 0 rfl rfl ?_
  refine mm_iconst (v := (-1)) h d_PN_lookThrough_1 (by decide) ?_
  refine mm_puti h fl_PN_22 (Or.inl rfl) rfl rfl rfl (is_PL hw) d_PN_lookThrough_2 ?_
  refine mm_aload_n h d_PN_lookThrough_5 0 rfl rfl ?_
  refine mm_iconst (v := 0) h d_PN_lookThrough_6 (by decide) ?_
  refine mm_puti h fl_PN_26 (Or.inl rfl) rfl rfl rfl (is_PL hw) d_PN_lookThrough_7 ?_
  refine mm_aload_n h d_PN_lookThrough_10 0 rfl rfl ?_
  refine mm_iconst (v := 0) h d_PN_lookThrough_11 (by decide) ?_
  refine mm_puti h fl_PN_29 (Or.inl rfl) rfl rfl rfl (is_PL hw) d_PN_lookThrough_12 ?_
  refine mm_aload_n h d_PN_lookThrough_15 0 rfl rfl ?_
  refine mm_iconst (v := 0) h d_PN_lookThrough_16 (by decide) ?_
  refine mm_puti h fl_PN_32 (Or.inl rfl) rfl rfl rfl (is_PL hw) d_PN_lookThrough_17 ?_
  refine mm_aload_n h d_PN_lookThrough_20 0 rfl rfl ?_
  refine mm_aload_n h d_PN_lookThrough_21 1 rfl rfl ?_
  exact mm_callV (As := [mm_rf E 2]) (rest := []) h m0 cv_PN_35 cm_PN_lookAtSource hl0 (q0 := _) rfl rfl (is_PL hw) hu0 hz0 rfl rfl (Nat.le_of_ble_eq_true rfl) d_PN_lookThrough_22 (fun r w1 f1 hp => k1 r w1 f1 hp)
theorem s_PN_lookThrough_25 {E : mm_E} {Γ : mm_G} {lev kc ks ca sa : Nat} {w : mm_W} {f : mm_F} (h : mm_ok E Γ b_PN_lookThrough 3 "PlannedTables$Plan" lev kc ks) (hw : mm_sh w)  (k0 : mm_go E Γ 3 27 [(0, mm_rf E 53), (1, mm_rf E 2), (2, .int 1)] [] w f ca sa) : mm_go E Γ 3 25 [(0, mm_rf E 53), (1, mm_rf E 2)] [] w f ca sa := by
  refine mm_iconst (v := 1) h d_PN_lookThrough_25 (by decide) ?_
  refine mm_istore_n (lv' := [(2, .int 1), (0, mm_rf E 53), (1, mm_rf E 2)]) h d_PN_lookThrough_26 rfl (by decide) rfl ?_
  refine mm_sub [1, 2, 0] rfl ?_
  exact k0
theorem s_PN_lookThrough_27 {E : mm_E} {Γ : mm_G} {lev kc ks ca sa : Nat} {w : mm_W} {f : mm_F} (h : mm_ok E Γ b_PN_lookThrough 3 "PlannedTables$Plan" lev kc ks) (hw : mm_sh w) {x2 : Int32} (k0 : 39 ≤ x2 → mm_go E Γ 3 63 [(0, mm_rf E 53), (1, mm_rf E 2), (2, .int x2)] [] w f ca sa) (k1 : ¬ 39 ≤ x2 → (f 53 1) ≤ (f 53 6) → mm_go E Γ 3 63 [(0, mm_rf E 53), (1, mm_rf E 2), (2, .int x2)] [] w f ca sa) (k2 : ¬ 39 ≤ x2 → ¬ (f 53 1) ≤ (f 53 6) → ¬ (f 53 2) = (-1) → mm_go E Γ 3 63 [(0, mm_rf E 53), (1, mm_rf E 2), (2, .int x2)] [] w f ca sa) {vl0 vc0 vs0 : Nat} {P0 : Option Value → mm_W → mm_F → Prop} (hl0 : vl0 < lev) (hu0 : ca + vc0 ≤ kc) (hz0 : sa + vs0 ≤ ks) (m3 : ¬ 39 ≤ x2 → ¬ (f 53 1) ≤ (f 53 6) → (f 53 2) = (-1) → mm_C E y_PN_lookAtStep b_PN_lookAtStep 3 none vl0 vc0 vs0 [mm_rf E 53, mm_rf E 2] w f P0) (k4 : ¬ 39 ≤ x2 → ¬ (f 53 1) ≤ (f 53 6) → (f 53 2) = (-1) → ∀ (r : Option Value) (w1 : mm_W) (f1 : mm_F), P0 r w1 f1 → mm_go E Γ 3 57 [(0, mm_rf E 53), (1, mm_rf E 2), (2, .int x2)] (r.toList ++ []) w1 f1 (ca + vc0) (sa + vs0)) : mm_go E Γ 3 27 [(0, mm_rf E 53), (1, mm_rf E 2), (2, .int x2)] [] w f ca sa := by
  refine mm_iload_n h d_PN_lookThrough_27 2 rfl rfl ?_
  refine mm_bipush (v := 39) h d_PN_lookThrough_28 (by decide) ?_
  refine mm_icmp_ge h d_PN_lookThrough_30 (tgt := 63) (by decide) (fun c1 => ?_) (fun c1 => ?_)
  · skip
    exact (k0 c1)
  · skip
    refine mm_aload_n h d_PN_lookThrough_33 0 rfl rfl ?_
    refine mm_geti h fl_PN_32 rfl (is_PL hw) d_PN_lookThrough_34 ?_
    refine mm_aload_n h d_PN_lookThrough_37 0 rfl rfl ?_
    refine mm_geti h fl_PN_39 rfl (is_PL hw) d_PN_lookThrough_38 ?_
    refine mm_icmp_ge h d_PN_lookThrough_41 (tgt := 63) (by decide) (fun c2 => ?_) (fun c2 => ?_)
    · skip
      exact (k1 c1 c2)
    · skip
      refine mm_aload_n h d_PN_lookThrough_44 0 rfl rfl ?_
      refine mm_geti h fl_PN_22 rfl (is_PL hw) d_PN_lookThrough_45 ?_
      refine mm_iconst (v := (-1)) h d_PN_lookThrough_48 (by decide) ?_
      refine mm_icmp_ne h d_PN_lookThrough_49 (tgt := 63) (by decide) (fun c3 => ?_) (fun c3 => ?_)
      · skip
        exact (k2 c1 c2 c3)
      · skip
        refine mm_aload_n h d_PN_lookThrough_52 0 rfl rfl ?_
        refine mm_aload_n h d_PN_lookThrough_53 1 rfl rfl ?_
        exact mm_callV (As := [mm_rf E 2]) (rest := []) h (m3 c1 c2 c3) cv_PN_42 cm_PN_lookAtStep hl0 (q0 := _) rfl rfl (is_PL hw) hu0 hz0 rfl rfl (Nat.le_of_ble_eq_true rfl) d_PN_lookThrough_54 (fun r w1 f1 hp => (k4 c1 c2 c3) r w1 f1 hp)
theorem s_PN_lookThrough_57 {E : mm_E} {Γ : mm_G} {lev kc ks ca sa : Nat} {w : mm_W} {f : mm_F} (h : mm_ok E Γ b_PN_lookThrough 3 "PlannedTables$Plan" lev kc ks) (hw : mm_sh w) {x2 : Int32} (k0 : mm_go E Γ 3 27 [(0, mm_rf E 53), (1, mm_rf E 2), (2, .int (x2 + 1))] [] w f ca sa) : mm_go E Γ 3 57 [(0, mm_rf E 53), (1, mm_rf E 2), (2, .int x2)] [] w f ca sa := by
  refine mm_iinc (lv' := [(2, .int (x2 + 1)), (0, mm_rf E 53), (1, mm_rf E 2)]) h d_PN_lookThrough_57 2 rfl (congrArg (fun z => x2 + z) lit1) (by decide) rfl ?_
  refine mm_goto h d_PN_lookThrough_60 (tgt := 27) (by decide) ?_
  refine mm_sub [1, 2, 0] rfl ?_
  exact k0
theorem s_PN_lookThrough_63 {E : mm_E} {Γ : mm_G} {lev kc ks ca sa : Nat} {w : mm_W} {f : mm_F} {Post : Option Value → mm_W → mm_F → Prop} (h : mm_ok E Γ b_PN_lookThrough 3 "PlannedTables$Plan" lev kc ks) (he : mm_end E Γ none kc ks Post y_PN_lookThrough.name) (hca : ca ≤ kc) (hsa : sa ≤ ks) (hw : mm_sh w) {x2 : Int32} (k0 : Post none w f) : mm_go E Γ 3 63 [(0, mm_rf E 53), (1, mm_rf E 2), (2, .int x2)] [] w f ca sa := by
  exact mm_vret h he d_PN_lookThrough_63 hca hsa k0
theorem d_PN_lookAtSource_0 : decode b_PN_lookAtSource 0 = .ok (.aload_n 0, 1) := by decide +kernel
theorem d_PN_lookAtSource_1 : decode b_PN_lookAtSource 1 = .ok (.invokevirtual 45, 3) := by decide +kernel
theorem d_PN_lookAtSource_4 : decode b_PN_lookAtSource 4 = .ok (.astore_n 2, 1) := by decide +kernel
theorem d_PN_lookAtSource_5 : decode b_PN_lookAtSource 5 = .ok (.aload_n 2, 1) := by decide +kernel
theorem d_PN_lookAtSource_6 : decode b_PN_lookAtSource 6 = .ok (.aload_n 0, 1) := by decide +kernel
theorem d_PN_lookAtSource_7 : decode b_PN_lookAtSource 7 = .ok (.iconst (1), 1) := by decide +kernel
theorem d_PN_lookAtSource_8 : decode b_PN_lookAtSource 8 = .ok (.iconst (2), 1) := by decide +kernel
theorem d_PN_lookAtSource_9 : decode b_PN_lookAtSource 9 = .ok (.invokevirtual 49, 3) := by decide +kernel
theorem d_PN_lookAtSource_12 : decode b_PN_lookAtSource 12 = .ok (.putfield 53, 3) := by decide +kernel
theorem d_PN_lookAtSource_15 : decode b_PN_lookAtSource 15 = .ok (.aload_n 0, 1) := by decide +kernel
theorem d_PN_lookAtSource_16 : decode b_PN_lookAtSource 16 = .ok (.iconst (0), 1) := by decide +kernel
theorem d_PN_lookAtSource_17 : decode b_PN_lookAtSource 17 = .ok (.aload_n 1, 1) := by decide +kernel
theorem d_PN_lookAtSource_18 : decode b_PN_lookAtSource 18 = .ok (.getfield 56, 3) := by decide +kernel
theorem d_PN_lookAtSource_21 : decode b_PN_lookAtSource 21 = .ok (.iconst (1), 1) := by decide +kernel
theorem d_PN_lookAtSource_22 : decode b_PN_lookAtSource 22 = .ok (.isub, 1) := by decide +kernel
theorem d_PN_lookAtSource_23 : decode b_PN_lookAtSource 23 = .ok (.invokevirtual 49, 3) := by decide +kernel
theorem d_PN_lookAtSource_26 : decode b_PN_lookAtSource 26 = .ok (.istore_n 3, 1) := by decide +kernel
theorem d_PN_lookAtSource_27 : decode b_PN_lookAtSource 27 = .ok (.aload_n 0, 1) := by decide +kernel
theorem d_PN_lookAtSource_28 : decode b_PN_lookAtSource 28 = .ok (.getfield 22, 3) := by decide +kernel
theorem d_PN_lookAtSource_31 : decode b_PN_lookAtSource 31 = .ok (.iconst (-1), 1) := by decide +kernel
theorem d_PN_lookAtSource_32 : decode b_PN_lookAtSource 32 = .ok (.if_icmp .eq (4), 3) := by decide +kernel
theorem d_PN_lookAtSource_35 : decode b_PN_lookAtSource 35 = .ok (.return_, 1) := by decide +kernel
theorem d_PN_lookAtSource_36 : decode b_PN_lookAtSource 36 = .ok (.aload_n 2, 1) := by decide +kernel
theorem d_PN_lookAtSource_37 : decode b_PN_lookAtSource 37 = .ok (.getfield 53, 3) := by decide +kernel
theorem d_PN_lookAtSource_40 : decode b_PN_lookAtSource 40 = .ok (.iconst (2), 1) := by decide +kernel
theorem d_PN_lookAtSource_41 : decode b_PN_lookAtSource 41 = .ok (.if_icmp .ne (21), 3) := by decide +kernel
theorem d_PN_lookAtSource_44 : decode b_PN_lookAtSource 44 = .ok (.aload_n 0, 1) := by decide +kernel
theorem d_PN_lookAtSource_45 : decode b_PN_lookAtSource 45 = .ok (.aload_n 1, 1) := by decide +kernel
theorem d_PN_lookAtSource_46 : decode b_PN_lookAtSource 46 = .ok (.getfield 61, 3) := by decide +kernel
theorem d_PN_lookAtSource_49 : decode b_PN_lookAtSource 49 = .ok (.iload_n 3, 1) := by decide +kernel
theorem d_PN_lookAtSource_50 : decode b_PN_lookAtSource 50 = .ok (.aaload, 1) := by decide +kernel
theorem d_PN_lookAtSource_51 : decode b_PN_lookAtSource 51 = .ok (.invokevirtual 65, 3) := by decide +kernel
theorem d_PN_lookAtSource_54 : decode b_PN_lookAtSource 54 = .ok (.aload_n 0, 1) := by decide +kernel
theorem d_PN_lookAtSource_55 : decode b_PN_lookAtSource 55 = .ok (.invokevirtual 69, 3) := by decide +kernel
theorem d_PN_lookAtSource_58 : decode b_PN_lookAtSource 58 = .ok (.aload_n 0, 1) := by decide +kernel
theorem d_PN_lookAtSource_59 : decode b_PN_lookAtSource 59 = .ok (.invokevirtual 69, 3) := by decide +kernel
theorem d_PN_lookAtSource_62 : decode b_PN_lookAtSource 62 = .ok (.aload_n 0, 1) := by decide +kernel
theorem d_PN_lookAtSource_63 : decode b_PN_lookAtSource 63 = .ok (.aload_n 1, 1) := by decide +kernel
theorem d_PN_lookAtSource_64 : decode b_PN_lookAtSource 64 = .ok (.getfield 61, 3) := by decide +kernel
theorem d_PN_lookAtSource_67 : decode b_PN_lookAtSource 67 = .ok (.iload_n 3, 1) := by decide +kernel
theorem d_PN_lookAtSource_68 : decode b_PN_lookAtSource 68 = .ok (.aaload, 1) := by decide +kernel
theorem d_PN_lookAtSource_69 : decode b_PN_lookAtSource 69 = .ok (.getfield 72, 3) := by decide +kernel
theorem d_PN_lookAtSource_72 : decode b_PN_lookAtSource 72 = .ok (.putfield 26, 3) := by decide +kernel
theorem d_PN_lookAtSource_75 : decode b_PN_lookAtSource 75 = .ok (.return_, 1) := by decide +kernel
theorem s_PN_lookAtSource_0 {E : mm_E} {Γ : mm_G} {lev kc ks ca sa : Nat} {w : mm_W} {f : mm_F} (h : mm_ok E Γ b_PN_lookAtSource 4 "PlannedTables$Plan" lev kc ks) (hw : mm_sh w)  {vl0 vc0 vs0 : Nat} {P0 : Option Value → mm_W → mm_F → Prop} (hl0 : vl0 < lev) (hu0 : ca + vc0 ≤ kc) (hz0 : sa + vs0 ≤ ks) (m0 : mm_C E y_PN_beginStep b_PN_beginStep 2 (some (.object "PlannedTables$Step")) vl0 vc0 vs0 [mm_rf E 53] w f P0) (k1 : ∀ (r : Option Value) (w1 : mm_W) (f1 : mm_F), P0 r w1 f1 → mm_go E Γ 4 4 [(0, mm_rf E 53), (1, mm_rf E 2)] (r.toList ++ []) w1 f1 (ca + vc0) (sa + vs0)) : mm_go E Γ 4 0 [(0, mm_rf E 53), (1, mm_rf E 2)] [] w f ca sa := by
  refine mm_aload_n h d_PN_lookAtSource_0 0 rfl rfl ?_
  exact mm_callV (As := []) (rest := []) h m0 cv_PN_45 cm_PN_beginStep hl0 (q0 := _) rfl rfl (is_PL hw) hu0 hz0 rfl rfl (Nat.le_of_ble_eq_true rfl) d_PN_lookAtSource_1 (fun r w1 f1 hp => k1 r w1 f1 hp)
theorem s_PN_lookAtSource_4 {E : mm_E} {Γ : mm_G} {lev kc ks ca sa : Nat} {w : mm_W} {f : mm_F} (h : mm_ok E Γ b_PN_lookAtSource 4 "PlannedTables$Plan" lev kc ks) (hw : mm_sh w) {sk0 : Nat} (hsk0 : sk0 < 39) {vl0 vc0 vs0 : Nat} {P0 : Option Value → mm_W → mm_F → Prop} (hl0 : vl0 < lev) (hu0 : ca + vc0 ≤ kc) (hz0 : sa + vs0 ≤ ks) (m0 : mm_C E y_PN_next b_PN_next 3 (some .int) vl0 vc0 vs0 [mm_rf E 53, .int 1, .int 2] w f P0) (k1 : ∀ (r : Option Value) (w1 : mm_W) (f1 : mm_F), P0 r w1 f1 → mm_go E Γ 4 12 [(0, mm_rf E 53), (1, mm_rf E 2), (2, mm_rf E (56 + 2 * sk0))] (r.toList ++ [mm_rf E (56 + 2 * sk0)]) w1 f1 (ca + vc0) (sa + vs0)) : mm_go E Γ 4 4 [(0, mm_rf E 53), (1, mm_rf E 2)] [mm_rf E (56 + 2 * sk0)] w f ca sa := by
  refine mm_astore_n (lv' := [(2, mm_rf E (56 + 2 * sk0)), (0, mm_rf E 53), (1, mm_rf E 2)]) h d_PN_lookAtSource_4 rfl (by decide) rfl ?_
  refine mm_aload_n h d_PN_lookAtSource_5 0 rfl rfl ?_
  refine mm_aload_n h d_PN_lookAtSource_6 1 rfl rfl ?_
  refine mm_iconst (v := 1) h d_PN_lookAtSource_7 (by decide) ?_
  refine mm_iconst (v := 2) h d_PN_lookAtSource_8 (by decide) ?_
  exact mm_callV (As := [.int 1, .int 2]) (rest := [mm_rf E (56 + 2 * sk0)]) h m0 cv_PN_49 cm_PN_next hl0 (q0 := _) rfl rfl (is_PL hw) hu0 hz0 rfl rfl (Nat.le_of_ble_eq_true rfl) d_PN_lookAtSource_9 (fun r w1 f1 hp => mm_sub [1, 2, 0] rfl (k1 r w1 f1 hp))
theorem s_PN_lookAtSource_12 {E : mm_E} {Γ : mm_G} {lev kc ks ca sa : Nat} {w : mm_W} {f : mm_F} (h : mm_ok E Γ b_PN_lookAtSource 4 "PlannedTables$Plan" lev kc ks) (hw : mm_sh w) {s2 : Nat} (hs2 : s2 < 39) {sk0 : Nat} (hsk0 : sk0 < 39) {xk1 : Int32} {vl0 vc0 vs0 : Nat} {P0 : Option Value → mm_W → mm_F → Prop} (hl0 : vl0 < lev) (hu0 : ca + vc0 ≤ kc) (hz0 : sa + vs0 ≤ ks) (m0 : mm_C E y_PN_next b_PN_next 3 (some .int) vl0 vc0 vs0 [mm_rf E 53, .int 0, .int (((mm_up f (56 + 2 * sk0) 0 xk1) 2 1) - 1)] w (mm_up f (56 + 2 * sk0) 0 xk1) P0) (k1 : ∀ (r : Option Value) (w1 : mm_W) (f1 : mm_F), P0 r w1 f1 → mm_go E Γ 4 26 [(0, mm_rf E 53), (1, mm_rf E 2), (2, mm_rf E (56 + 2 * s2))] (r.toList ++ []) w1 f1 (ca + vc0) (sa + vs0)) : mm_go E Γ 4 12 [(0, mm_rf E 53), (1, mm_rf E 2), (2, mm_rf E (56 + 2 * s2))] [.int xk1, mm_rf E (56 + 2 * sk0)] w f ca sa := by
  refine mm_puti h fl_PN_53 (Or.inl rfl) rfl rfl rfl (is_S hw hsk0) d_PN_lookAtSource_12 ?_
  refine mm_aload_n h d_PN_lookAtSource_15 0 rfl rfl ?_
  refine mm_iconst (v := 0) h d_PN_lookAtSource_16 (by decide) ?_
  refine mm_aload_n h d_PN_lookAtSource_17 1 rfl rfl ?_
  refine mm_geti h fl_PN_56 rfl (is_TS hw) d_PN_lookAtSource_18 ?_
  refine mm_iconst (v := 1) h d_PN_lookAtSource_21 (by decide) ?_
  refine mm_isub h d_PN_lookAtSource_22 ?_
  exact mm_callV (As := [.int 0, .int (((mm_up f (56 + 2 * sk0) 0 xk1) 2 1) - 1)]) (rest := []) h m0 cv_PN_49 cm_PN_next hl0 (q0 := _) rfl rfl (is_PL hw) hu0 hz0 rfl rfl (Nat.le_of_ble_eq_true rfl) d_PN_lookAtSource_23 (fun r w1 f1 hp => k1 r w1 f1 hp)
theorem s_PN_lookAtSource_26 {E : mm_E} {Γ : mm_G} {lev kc ks ca sa : Nat} {w : mm_W} {f : mm_F} {Post : Option Value → mm_W → mm_F → Prop} (h : mm_ok E Γ b_PN_lookAtSource 4 "PlannedTables$Plan" lev kc ks) (he : mm_end E Γ none kc ks Post y_PN_lookAtSource.name) (hca : ca ≤ kc) (hsa : sa ≤ ks) (hw : mm_sh w) {s2 : Nat} (hs2 : s2 < 39) {xk0 : Int32} (k0 : (f 53 2) = (-1) → ¬ (f (56 + 2 * s2) 0) = 2 → mm_go E Γ 4 62 [(0, mm_rf E 53), (1, mm_rf E 2), (2, mm_rf E (56 + 2 * s2)), (3, .int xk0)] [] w f ca sa) (b1 : (f 53 2) = (-1) → (f (56 + 2 * s2) 0) = 2 → vp_in xk0 4) {vl0 vc0 vs0 : Nat} {P0 : Option Value → mm_W → mm_F → Prop} (hl0 : vl0 < lev) (hu0 : ca + vc0 ≤ kc) (hz0 : sa + vs0 ≤ ks) (m2 : (f 53 2) = (-1) → (f (56 + 2 * s2) 0) = 2 → mm_C E y_PN_nextIndexed b_PN_nextIndexed 3 none vl0 vc0 vs0 [mm_rf E 53, mm_rf E (4 + 12 * (xk0).toNatClampNeg)] w f P0) (k3 : (f 53 2) = (-1) → (f (56 + 2 * s2) 0) = 2 → ∀ (r : Option Value) (w1 : mm_W) (f1 : mm_F), P0 r w1 f1 → mm_go E Γ 4 54 [(0, mm_rf E 53), (1, mm_rf E 2), (2, mm_rf E (56 + 2 * s2)), (3, .int xk0)] (r.toList ++ []) w1 f1 (ca + vc0) (sa + vs0)) (k4 : ¬ (f 53 2) = (-1) → Post none w f) : mm_go E Γ 4 26 [(0, mm_rf E 53), (1, mm_rf E 2), (2, mm_rf E (56 + 2 * s2))] [.int xk0] w f ca sa := by
  refine mm_istore_n (lv' := [(3, .int xk0), (0, mm_rf E 53), (1, mm_rf E 2), (2, mm_rf E (56 + 2 * s2))]) h d_PN_lookAtSource_26 rfl (by decide) rfl ?_
  refine mm_aload_n h d_PN_lookAtSource_27 1 rfl rfl ?_
  refine mm_geti h fl_PN_22 rfl (is_PL hw) d_PN_lookAtSource_28 ?_
  refine mm_iconst (v := (-1)) h d_PN_lookAtSource_31 (by decide) ?_
  refine mm_icmp_eq h d_PN_lookAtSource_32 (tgt := 36) (by decide) (fun c1 => ?_) (fun c1 => ?_)
  · skip
    refine mm_aload_n h d_PN_lookAtSource_36 3 rfl rfl ?_
    refine mm_geti h fl_PN_53 rfl (is_S hw hs2) d_PN_lookAtSource_37 ?_
    refine mm_iconst (v := 2) h d_PN_lookAtSource_40 (by decide) ?_
    refine mm_icmp_ne h d_PN_lookAtSource_41 (tgt := 62) (by decide) (fun c2 => ?_) (fun c2 => ?_)
    · skip
      refine mm_sub [1, 2, 3, 0] rfl ?_
      exact (k0 c1 c2)
    · skip
      refine mm_aload_n h d_PN_lookAtSource_44 1 rfl rfl ?_
      refine mm_aload_n h d_PN_lookAtSource_45 2 rfl rfl ?_
      refine mm_getr h fl_PN_61 rfl (is_TS hw) (rf_TS_all hw) (is_TA hw).1.1 d_PN_lookAtSource_46 ?_
      refine mm_iload_n h d_PN_lookAtSource_49 0 rfl rfl ?_
      refine mm_aald h 4 rfl rfl rfl (fun _ => rfl) (is_TA hw) (b1 c1 c2) (ra_TA hw (mm_in_lt (b1 c1 c2))) (is_T hw (mm_in_lt (b1 c1 c2))).1 d_PN_lookAtSource_50 ?_
      exact mm_callV (As := [mm_rf E (4 + 12 * (xk0).toNatClampNeg)]) (rest := []) h (m2 c1 c2) cv_PN_65 cm_PN_nextIndexed hl0 (q0 := _) rfl rfl (is_PL hw) hu0 hz0 rfl rfl (Nat.le_of_ble_eq_true rfl) d_PN_lookAtSource_51 (fun r w1 f1 hp => mm_sub [1, 2, 3, 0] rfl ((k3 c1 c2) r w1 f1 hp))
  · skip
    exact mm_vret h he d_PN_lookAtSource_35 hca hsa (k4 c1)
theorem s_PN_lookAtSource_54 {E : mm_E} {Γ : mm_G} {lev kc ks ca sa : Nat} {w : mm_W} {f : mm_F} (h : mm_ok E Γ b_PN_lookAtSource 4 "PlannedTables$Plan" lev kc ks) (hw : mm_sh w) {s2 : Nat} (hs2 : s2 < 39) {x3 : Int32} {vl0 vc0 vs0 : Nat} {P0 : Option Value → mm_W → mm_F → Prop} (hl0 : vl0 < lev) (hu0 : ca + vc0 ≤ kc) (hz0 : sa + vs0 ≤ ks) (m0 : mm_C E y_PN_nextAny b_PN_nextAny 1 none vl0 vc0 vs0 [mm_rf E 53] w f P0) (k1 : ∀ (r : Option Value) (w1 : mm_W) (f1 : mm_F), P0 r w1 f1 → mm_go E Γ 4 58 [(0, mm_rf E 53), (1, mm_rf E 2), (2, mm_rf E (56 + 2 * s2)), (3, .int x3)] (r.toList ++ []) w1 f1 (ca + vc0) (sa + vs0)) : mm_go E Γ 4 54 [(0, mm_rf E 53), (1, mm_rf E 2), (2, mm_rf E (56 + 2 * s2)), (3, .int x3)] [] w f ca sa := by
  refine mm_aload_n h d_PN_lookAtSource_54 0 rfl rfl ?_
  exact mm_callV (As := []) (rest := []) h m0 cv_PN_69 cm_PN_nextAny hl0 (q0 := _) rfl rfl (is_PL hw) hu0 hz0 rfl rfl (Nat.le_of_ble_eq_true rfl) d_PN_lookAtSource_55 (fun r w1 f1 hp => k1 r w1 f1 hp)
theorem s_PN_lookAtSource_58 {E : mm_E} {Γ : mm_G} {lev kc ks ca sa : Nat} {w : mm_W} {f : mm_F} (h : mm_ok E Γ b_PN_lookAtSource 4 "PlannedTables$Plan" lev kc ks) (hw : mm_sh w) {s2 : Nat} (hs2 : s2 < 39) {x3 : Int32} {vl0 vc0 vs0 : Nat} {P0 : Option Value → mm_W → mm_F → Prop} (hl0 : vl0 < lev) (hu0 : ca + vc0 ≤ kc) (hz0 : sa + vs0 ≤ ks) (m0 : mm_C E y_PN_nextAny b_PN_nextAny 1 none vl0 vc0 vs0 [mm_rf E 53] w f P0) (k1 : ∀ (r : Option Value) (w1 : mm_W) (f1 : mm_F), P0 r w1 f1 → mm_go E Γ 4 62 [(0, mm_rf E 53), (1, mm_rf E 2), (2, mm_rf E (56 + 2 * s2)), (3, .int x3)] (r.toList ++ []) w1 f1 (ca + vc0) (sa + vs0)) : mm_go E Γ 4 58 [(0, mm_rf E 53), (1, mm_rf E 2), (2, mm_rf E (56 + 2 * s2)), (3, .int x3)] [] w f ca sa := by
  refine mm_aload_n h d_PN_lookAtSource_58 0 rfl rfl ?_
  exact mm_callV (As := []) (rest := []) h m0 cv_PN_69 cm_PN_nextAny hl0 (q0 := _) rfl rfl (is_PL hw) hu0 hz0 rfl rfl (Nat.le_of_ble_eq_true rfl) d_PN_lookAtSource_59 (fun r w1 f1 hp => k1 r w1 f1 hp)
theorem s_PN_lookAtSource_62 {E : mm_E} {Γ : mm_G} {lev kc ks ca sa : Nat} {w : mm_W} {f : mm_F} {Post : Option Value → mm_W → mm_F → Prop} (h : mm_ok E Γ b_PN_lookAtSource 4 "PlannedTables$Plan" lev kc ks) (he : mm_end E Γ none kc ks Post y_PN_lookAtSource.name) (hca : ca ≤ kc) (hsa : sa ≤ ks) (hw : mm_sh w) {s2 : Nat} (hs2 : s2 < 39) {x3 : Int32} (b0 : vp_in x3 4) (k1 : Post none w (mm_up f 53 3 (f (4 + 12 * (x3).toNatClampNeg) 0))) : mm_go E Γ 4 62 [(0, mm_rf E 53), (1, mm_rf E 2), (2, mm_rf E (56 + 2 * s2)), (3, .int x3)] [] w f ca sa := by
  refine mm_aload_n h d_PN_lookAtSource_62 0 rfl rfl ?_
  refine mm_aload_n h d_PN_lookAtSource_63 1 rfl rfl ?_
  refine mm_getr h fl_PN_61 rfl (is_TS hw) (rf_TS_all hw) (is_TA hw).1.1 d_PN_lookAtSource_64 ?_
  refine mm_iload_n h d_PN_lookAtSource_67 3 rfl rfl ?_
  refine mm_aald h 4 rfl rfl rfl (fun _ => rfl) (is_TA hw) b0 (ra_TA hw (mm_in_lt b0)) (is_T hw (mm_in_lt b0)).1 d_PN_lookAtSource_68 ?_
  refine mm_geti h fl_PN_72 rfl (is_T hw (mm_in_lt b0)) d_PN_lookAtSource_69 ?_
  refine mm_puti h fl_PN_26 (Or.inl rfl) rfl rfl rfl (is_PL hw) d_PN_lookAtSource_72 ?_
  exact mm_vret h he d_PN_lookAtSource_75 hca hsa k1
theorem d_PN_lookAtStep_0 : decode b_PN_lookAtStep 0 = .ok (.aload_n 0, 1) := by decide +kernel
theorem d_PN_lookAtStep_1 : decode b_PN_lookAtStep 1 = .ok (.invokevirtual 45, 3) := by decide +kernel
theorem d_PN_lookAtStep_4 : decode b_PN_lookAtStep 4 = .ok (.astore_n 2, 1) := by decide +kernel
theorem d_PN_lookAtStep_5 : decode b_PN_lookAtStep 5 = .ok (.aload_n 2, 1) := by decide +kernel
theorem d_PN_lookAtStep_6 : decode b_PN_lookAtStep 6 = .ok (.aload_n 0, 1) := by decide +kernel
theorem d_PN_lookAtStep_7 : decode b_PN_lookAtStep 7 = .ok (.iconst (3), 1) := by decide +kernel
theorem d_PN_lookAtStep_8 : decode b_PN_lookAtStep 8 = .ok (.bipush (10), 2) := by decide +kernel
theorem d_PN_lookAtStep_10 : decode b_PN_lookAtStep 10 = .ok (.invokevirtual 49, 3) := by decide +kernel
theorem d_PN_lookAtStep_13 : decode b_PN_lookAtStep 13 = .ok (.putfield 53, 3) := by decide +kernel
theorem d_PN_lookAtStep_16 : decode b_PN_lookAtStep 16 = .ok (.aload_n 2, 1) := by decide +kernel
theorem d_PN_lookAtStep_17 : decode b_PN_lookAtStep 17 = .ok (.getfield 53, 3) := by decide +kernel
theorem d_PN_lookAtStep_20 : decode b_PN_lookAtStep 20 = .ok (.tableswitch (124) (3) (10) #[(48), (66), (73), (81), (81), (92), (100), (112)], 48) := by decide +kernel
theorem d_PN_lookAtStep_68 : decode b_PN_lookAtStep 68 = .ok (.aload_n 0, 1) := by decide +kernel
theorem d_PN_lookAtStep_69 : decode b_PN_lookAtStep 69 = .ok (.invokevirtual 77, 3) := by decide +kernel
theorem d_PN_lookAtStep_72 : decode b_PN_lookAtStep 72 = .ok (.aload_n 0, 1) := by decide +kernel
theorem d_PN_lookAtStep_73 : decode b_PN_lookAtStep 73 = .ok (.iconst (0), 1) := by decide +kernel
theorem d_PN_lookAtStep_74 : decode b_PN_lookAtStep 74 = .ok (.iconst (5), 1) := by decide +kernel
theorem d_PN_lookAtStep_75 : decode b_PN_lookAtStep 75 = .ok (.invokevirtual 49, 3) := by decide +kernel
theorem d_PN_lookAtStep_78 : decode b_PN_lookAtStep 78 = .ok (.pop, 1) := by decide +kernel
theorem d_PN_lookAtStep_79 : decode b_PN_lookAtStep 79 = .ok (.aload_n 0, 1) := by decide +kernel
theorem d_PN_lookAtStep_80 : decode b_PN_lookAtStep 80 = .ok (.invokevirtual 69, 3) := by decide +kernel
theorem d_PN_lookAtStep_83 : decode b_PN_lookAtStep 83 = .ok (.goto (61), 3) := by decide +kernel
theorem d_PN_lookAtStep_86 : decode b_PN_lookAtStep 86 = .ok (.aload_n 0, 1) := by decide +kernel
theorem d_PN_lookAtStep_87 : decode b_PN_lookAtStep 87 = .ok (.invokevirtual 80, 3) := by decide +kernel
theorem d_PN_lookAtStep_90 : decode b_PN_lookAtStep 90 = .ok (.goto (54), 3) := by decide +kernel
theorem d_PN_lookAtStep_93 : decode b_PN_lookAtStep 93 = .ok (.aload_n 0, 1) := by decide +kernel
theorem d_PN_lookAtStep_94 : decode b_PN_lookAtStep 94 = .ok (.aload_n 1, 1) := by decide +kernel
theorem d_PN_lookAtStep_95 : decode b_PN_lookAtStep 95 = .ok (.invokevirtual 83, 3) := by decide +kernel
theorem d_PN_lookAtStep_98 : decode b_PN_lookAtStep 98 = .ok (.goto (46), 3) := by decide +kernel
theorem d_PN_lookAtStep_101 : decode b_PN_lookAtStep 101 = .ok (.aload_n 0, 1) := by decide +kernel
theorem d_PN_lookAtStep_102 : decode b_PN_lookAtStep 102 = .ok (.iconst (0), 1) := by decide +kernel
theorem d_PN_lookAtStep_103 : decode b_PN_lookAtStep 103 = .ok (.ldc 86, 2) := by decide +kernel
theorem d_PN_lookAtStep_105 : decode b_PN_lookAtStep 105 = .ok (.invokevirtual 49, 3) := by decide +kernel
theorem d_PN_lookAtStep_108 : decode b_PN_lookAtStep 108 = .ok (.pop, 1) := by decide +kernel
theorem d_PN_lookAtStep_109 : decode b_PN_lookAtStep 109 = .ok (.goto (35), 3) := by decide +kernel
theorem d_PN_lookAtStep_112 : decode b_PN_lookAtStep 112 = .ok (.aload_n 0, 1) := by decide +kernel
theorem d_PN_lookAtStep_113 : decode b_PN_lookAtStep 113 = .ok (.iconst (1), 1) := by decide +kernel
theorem d_PN_lookAtStep_114 : decode b_PN_lookAtStep 114 = .ok (.putfield 26, 3) := by decide +kernel
theorem d_PN_lookAtStep_117 : decode b_PN_lookAtStep 117 = .ok (.goto (27), 3) := by decide +kernel
theorem d_PN_lookAtStep_120 : decode b_PN_lookAtStep 120 = .ok (.aload_n 0, 1) := by decide +kernel
theorem d_PN_lookAtStep_121 : decode b_PN_lookAtStep 121 = .ok (.invokevirtual 77, 3) := by decide +kernel
theorem d_PN_lookAtStep_124 : decode b_PN_lookAtStep 124 = .ok (.aload_n 0, 1) := by decide +kernel
theorem d_PN_lookAtStep_125 : decode b_PN_lookAtStep 125 = .ok (.iconst (1), 1) := by decide +kernel
theorem d_PN_lookAtStep_126 : decode b_PN_lookAtStep 126 = .ok (.putfield 26, 3) := by decide +kernel
theorem d_PN_lookAtStep_129 : decode b_PN_lookAtStep 129 = .ok (.goto (15), 3) := by decide +kernel
theorem d_PN_lookAtStep_132 : decode b_PN_lookAtStep 132 = .ok (.aload_n 0, 1) := by decide +kernel
theorem d_PN_lookAtStep_133 : decode b_PN_lookAtStep 133 = .ok (.invokevirtual 77, 3) := by decide +kernel
theorem d_PN_lookAtStep_136 : decode b_PN_lookAtStep 136 = .ok (.aload_n 0, 1) := by decide +kernel
theorem d_PN_lookAtStep_137 : decode b_PN_lookAtStep 137 = .ok (.iconst (2), 1) := by decide +kernel
theorem d_PN_lookAtStep_138 : decode b_PN_lookAtStep 138 = .ok (.putfield 26, 3) := by decide +kernel
theorem d_PN_lookAtStep_141 : decode b_PN_lookAtStep 141 = .ok (.goto (3), 3) := by decide +kernel
theorem d_PN_lookAtStep_144 : decode b_PN_lookAtStep 144 = .ok (.return_, 1) := by decide +kernel
theorem s_PN_lookAtStep_0 {E : mm_E} {Γ : mm_G} {lev kc ks ca sa : Nat} {w : mm_W} {f : mm_F} (h : mm_ok E Γ b_PN_lookAtStep 3 "PlannedTables$Plan" lev kc ks) (hw : mm_sh w)  {vl0 vc0 vs0 : Nat} {P0 : Option Value → mm_W → mm_F → Prop} (hl0 : vl0 < lev) (hu0 : ca + vc0 ≤ kc) (hz0 : sa + vs0 ≤ ks) (m0 : mm_C E y_PN_beginStep b_PN_beginStep 2 (some (.object "PlannedTables$Step")) vl0 vc0 vs0 [mm_rf E 53] w f P0) (k1 : ∀ (r : Option Value) (w1 : mm_W) (f1 : mm_F), P0 r w1 f1 → mm_go E Γ 3 4 [(0, mm_rf E 53), (1, mm_rf E 2)] (r.toList ++ []) w1 f1 (ca + vc0) (sa + vs0)) : mm_go E Γ 3 0 [(0, mm_rf E 53), (1, mm_rf E 2)] [] w f ca sa := by
  refine mm_aload_n h d_PN_lookAtStep_0 0 rfl rfl ?_
  exact mm_callV (As := []) (rest := []) h m0 cv_PN_45 cm_PN_beginStep hl0 (q0 := _) rfl rfl (is_PL hw) hu0 hz0 rfl rfl (Nat.le_of_ble_eq_true rfl) d_PN_lookAtStep_1 (fun r w1 f1 hp => k1 r w1 f1 hp)
theorem s_PN_lookAtStep_4 {E : mm_E} {Γ : mm_G} {lev kc ks ca sa : Nat} {w : mm_W} {f : mm_F} (h : mm_ok E Γ b_PN_lookAtStep 3 "PlannedTables$Plan" lev kc ks) (hw : mm_sh w) {sk0 : Nat} (hsk0 : sk0 < 39) {vl0 vc0 vs0 : Nat} {P0 : Option Value → mm_W → mm_F → Prop} (hl0 : vl0 < lev) (hu0 : ca + vc0 ≤ kc) (hz0 : sa + vs0 ≤ ks) (m0 : mm_C E y_PN_next b_PN_next 3 (some .int) vl0 vc0 vs0 [mm_rf E 53, .int 3, .int 10] w f P0) (k1 : ∀ (r : Option Value) (w1 : mm_W) (f1 : mm_F), P0 r w1 f1 → mm_go E Γ 3 13 [(0, mm_rf E 53), (1, mm_rf E 2), (2, mm_rf E (56 + 2 * sk0))] (r.toList ++ [mm_rf E (56 + 2 * sk0)]) w1 f1 (ca + vc0) (sa + vs0)) : mm_go E Γ 3 4 [(0, mm_rf E 53), (1, mm_rf E 2)] [mm_rf E (56 + 2 * sk0)] w f ca sa := by
  refine mm_astore_n (lv' := [(2, mm_rf E (56 + 2 * sk0)), (0, mm_rf E 53), (1, mm_rf E 2)]) h d_PN_lookAtStep_4 rfl (by decide) rfl ?_
  refine mm_aload_n h d_PN_lookAtStep_5 0 rfl rfl ?_
  refine mm_aload_n h d_PN_lookAtStep_6 1 rfl rfl ?_
  refine mm_iconst (v := 3) h d_PN_lookAtStep_7 (by decide) ?_
  refine mm_bipush (v := 10) h d_PN_lookAtStep_8 (by decide) ?_
  exact mm_callV (As := [.int 3, .int 10]) (rest := [mm_rf E (56 + 2 * sk0)]) h m0 cv_PN_49 cm_PN_next hl0 (q0 := _) rfl rfl (is_PL hw) hu0 hz0 rfl rfl (Nat.le_of_ble_eq_true rfl) d_PN_lookAtStep_10 (fun r w1 f1 hp => mm_sub [1, 2, 0] rfl (k1 r w1 f1 hp))
theorem s_PN_lookAtStep_13 {E : mm_E} {Γ : mm_G} {lev kc ks ca sa : Nat} {w : mm_W} {f : mm_F} (h : mm_ok E Γ b_PN_lookAtStep 3 "PlannedTables$Plan" lev kc ks) (hw : mm_sh w) {s2 : Nat} (hs2 : s2 < 39) {sk0 : Nat} (hsk0 : sk0 < 39) {xk1 : Int32} (k0 : ((mm_up f (56 + 2 * sk0) 0 xk1) (56 + 2 * s2) 0) = 3 → mm_go E Γ 3 68 [(0, mm_rf E 53), (1, mm_rf E 2), (2, mm_rf E (56 + 2 * s2))] [] w (mm_up f (56 + 2 * sk0) 0 xk1) ca sa) (k1 : ¬ ((mm_up f (56 + 2 * sk0) 0 xk1) (56 + 2 * s2) 0) = 3 → ((mm_up f (56 + 2 * sk0) 0 xk1) (56 + 2 * s2) 0) = 4 → mm_go E Γ 3 86 [(0, mm_rf E 53), (1, mm_rf E 2), (2, mm_rf E (56 + 2 * s2))] [] w (mm_up f (56 + 2 * sk0) 0 xk1) ca sa) (k2 : ¬ ((mm_up f (56 + 2 * sk0) 0 xk1) (56 + 2 * s2) 0) = 3 → ¬ ((mm_up f (56 + 2 * sk0) 0 xk1) (56 + 2 * s2) 0) = 4 → ((mm_up f (56 + 2 * sk0) 0 xk1) (56 + 2 * s2) 0) = 5 → mm_go E Γ 3 93 [(0, mm_rf E 53), (1, mm_rf E 2), (2, mm_rf E (56 + 2 * s2))] [] w (mm_up f (56 + 2 * sk0) 0 xk1) ca sa) (k3 : ¬ ((mm_up f (56 + 2 * sk0) 0 xk1) (56 + 2 * s2) 0) = 3 → ¬ ((mm_up f (56 + 2 * sk0) 0 xk1) (56 + 2 * s2) 0) = 4 → ¬ ((mm_up f (56 + 2 * sk0) 0 xk1) (56 + 2 * s2) 0) = 5 → ((mm_up f (56 + 2 * sk0) 0 xk1) (56 + 2 * s2) 0) = 6 → mm_go E Γ 3 101 [(0, mm_rf E 53), (1, mm_rf E 2), (2, mm_rf E (56 + 2 * s2))] [] w (mm_up f (56 + 2 * sk0) 0 xk1) ca sa) (k4 : ¬ ((mm_up f (56 + 2 * sk0) 0 xk1) (56 + 2 * s2) 0) = 3 → ¬ ((mm_up f (56 + 2 * sk0) 0 xk1) (56 + 2 * s2) 0) = 4 → ¬ ((mm_up f (56 + 2 * sk0) 0 xk1) (56 + 2 * s2) 0) = 5 → ¬ ((mm_up f (56 + 2 * sk0) 0 xk1) (56 + 2 * s2) 0) = 6 → ((mm_up f (56 + 2 * sk0) 0 xk1) (56 + 2 * s2) 0) = 7 → mm_go E Γ 3 101 [(0, mm_rf E 53), (1, mm_rf E 2), (2, mm_rf E (56 + 2 * s2))] [] w (mm_up f (56 + 2 * sk0) 0 xk1) ca sa) (k5 : ¬ ((mm_up f (56 + 2 * sk0) 0 xk1) (56 + 2 * s2) 0) = 3 → ¬ ((mm_up f (56 + 2 * sk0) 0 xk1) (56 + 2 * s2) 0) = 4 → ¬ ((mm_up f (56 + 2 * sk0) 0 xk1) (56 + 2 * s2) 0) = 5 → ¬ ((mm_up f (56 + 2 * sk0) 0 xk1) (56 + 2 * s2) 0) = 6 → ¬ ((mm_up f (56 + 2 * sk0) 0 xk1) (56 + 2 * s2) 0) = 7 → ((mm_up f (56 + 2 * sk0) 0 xk1) (56 + 2 * s2) 0) = 8 → mm_go E Γ 3 112 [(0, mm_rf E 53), (1, mm_rf E 2), (2, mm_rf E (56 + 2 * s2))] [] w (mm_up f (56 + 2 * sk0) 0 xk1) ca sa) (k6 : ¬ ((mm_up f (56 + 2 * sk0) 0 xk1) (56 + 2 * s2) 0) = 3 → ¬ ((mm_up f (56 + 2 * sk0) 0 xk1) (56 + 2 * s2) 0) = 4 → ¬ ((mm_up f (56 + 2 * sk0) 0 xk1) (56 + 2 * s2) 0) = 5 → ¬ ((mm_up f (56 + 2 * sk0) 0 xk1) (56 + 2 * s2) 0) = 6 → ¬ ((mm_up f (56 + 2 * sk0) 0 xk1) (56 + 2 * s2) 0) = 7 → ¬ ((mm_up f (56 + 2 * sk0) 0 xk1) (56 + 2 * s2) 0) = 8 → ((mm_up f (56 + 2 * sk0) 0 xk1) (56 + 2 * s2) 0) = 9 → mm_go E Γ 3 120 [(0, mm_rf E 53), (1, mm_rf E 2), (2, mm_rf E (56 + 2 * s2))] [] w (mm_up f (56 + 2 * sk0) 0 xk1) ca sa) (k7 : ¬ ((mm_up f (56 + 2 * sk0) 0 xk1) (56 + 2 * s2) 0) = 3 → ¬ ((mm_up f (56 + 2 * sk0) 0 xk1) (56 + 2 * s2) 0) = 4 → ¬ ((mm_up f (56 + 2 * sk0) 0 xk1) (56 + 2 * s2) 0) = 5 → ¬ ((mm_up f (56 + 2 * sk0) 0 xk1) (56 + 2 * s2) 0) = 6 → ¬ ((mm_up f (56 + 2 * sk0) 0 xk1) (56 + 2 * s2) 0) = 7 → ¬ ((mm_up f (56 + 2 * sk0) 0 xk1) (56 + 2 * s2) 0) = 8 → ¬ ((mm_up f (56 + 2 * sk0) 0 xk1) (56 + 2 * s2) 0) = 9 → ((mm_up f (56 + 2 * sk0) 0 xk1) (56 + 2 * s2) 0) = 10 → mm_go E Γ 3 132 [(0, mm_rf E 53), (1, mm_rf E 2), (2, mm_rf E (56 + 2 * s2))] [] w (mm_up f (56 + 2 * sk0) 0 xk1) ca sa) (k8 : ¬ ((mm_up f (56 + 2 * sk0) 0 xk1) (56 + 2 * s2) 0) = 3 → ¬ ((mm_up f (56 + 2 * sk0) 0 xk1) (56 + 2 * s2) 0) = 4 → ¬ ((mm_up f (56 + 2 * sk0) 0 xk1) (56 + 2 * s2) 0) = 5 → ¬ ((mm_up f (56 + 2 * sk0) 0 xk1) (56 + 2 * s2) 0) = 6 → ¬ ((mm_up f (56 + 2 * sk0) 0 xk1) (56 + 2 * s2) 0) = 7 → ¬ ((mm_up f (56 + 2 * sk0) 0 xk1) (56 + 2 * s2) 0) = 8 → ¬ ((mm_up f (56 + 2 * sk0) 0 xk1) (56 + 2 * s2) 0) = 9 → ¬ ((mm_up f (56 + 2 * sk0) 0 xk1) (56 + 2 * s2) 0) = 10 → mm_go E Γ 3 144 [(0, mm_rf E 53), (1, mm_rf E 2), (2, mm_rf E (56 + 2 * s2))] [] w (mm_up f (56 + 2 * sk0) 0 xk1) ca sa) : mm_go E Γ 3 13 [(0, mm_rf E 53), (1, mm_rf E 2), (2, mm_rf E (56 + 2 * s2))] [.int xk1, mm_rf E (56 + 2 * sk0)] w f ca sa := by
  refine mm_puti h fl_PN_53 (Or.inl rfl) rfl rfl rfl (is_S hw hsk0) d_PN_lookAtStep_13 ?_
  refine mm_aload_n h d_PN_lookAtStep_16 2 rfl rfl ?_
  refine mm_geti h fl_PN_53 rfl (is_S hw hs2) d_PN_lookAtStep_17 ?_
  by_cases c1 : ((mm_up f (56 + 2 * sk0) 0 xk1) (56 + 2 * s2) 0) = 3
  · refine mm_tin h d_PN_lookAtStep_20 (by rw [c1]; decide) (by rw [c1]; decide) (off := 48) (by rw [c1]; rfl) (tgt := 68) (by decide) ?_
    exact (k0 c1)
  by_cases c2 : ((mm_up f (56 + 2 * sk0) 0 xk1) (56 + 2 * s2) 0) = 4
  · refine mm_tin h d_PN_lookAtStep_20 (by rw [c2]; decide) (by rw [c2]; decide) (off := 66) (by rw [c2]; rfl) (tgt := 86) (by decide) ?_
    exact (k1 c1 c2)
  by_cases c3 : ((mm_up f (56 + 2 * sk0) 0 xk1) (56 + 2 * s2) 0) = 5
  · refine mm_tin h d_PN_lookAtStep_20 (by rw [c3]; decide) (by rw [c3]; decide) (off := 73) (by rw [c3]; rfl) (tgt := 93) (by decide) ?_
    exact (k2 c1 c2 c3)
  by_cases c4 : ((mm_up f (56 + 2 * sk0) 0 xk1) (56 + 2 * s2) 0) = 6
  · refine mm_tin h d_PN_lookAtStep_20 (by rw [c4]; decide) (by rw [c4]; decide) (off := 81) (by rw [c4]; rfl) (tgt := 101) (by decide) ?_
    exact (k3 c1 c2 c3 c4)
  by_cases c5 : ((mm_up f (56 + 2 * sk0) 0 xk1) (56 + 2 * s2) 0) = 7
  · refine mm_tin h d_PN_lookAtStep_20 (by rw [c5]; decide) (by rw [c5]; decide) (off := 81) (by rw [c5]; rfl) (tgt := 101) (by decide) ?_
    exact (k4 c1 c2 c3 c4 c5)
  by_cases c6 : ((mm_up f (56 + 2 * sk0) 0 xk1) (56 + 2 * s2) 0) = 8
  · refine mm_tin h d_PN_lookAtStep_20 (by rw [c6]; decide) (by rw [c6]; decide) (off := 92) (by rw [c6]; rfl) (tgt := 112) (by decide) ?_
    exact (k5 c1 c2 c3 c4 c5 c6)
  by_cases c7 : ((mm_up f (56 + 2 * sk0) 0 xk1) (56 + 2 * s2) 0) = 9
  · refine mm_tin h d_PN_lookAtStep_20 (by rw [c7]; decide) (by rw [c7]; decide) (off := 100) (by rw [c7]; rfl) (tgt := 120) (by decide) ?_
    exact (k6 c1 c2 c3 c4 c5 c6 c7)
  by_cases c8 : ((mm_up f (56 + 2 * sk0) 0 xk1) (56 + 2 * s2) 0) = 10
  · refine mm_tin h d_PN_lookAtStep_20 (by rw [c8]; decide) (by rw [c8]; decide) (off := 112) (by rw [c8]; rfl) (tgt := 132) (by decide) ?_
    exact (k7 c1 c2 c3 c4 c5 c6 c7 c8)
  refine mm_tout h d_PN_lookAtStep_20 (by have q0 := mm_ne 3 3 (by decide) c1; have q1 := mm_ne 4 4 (by decide) c2; have q2 := mm_ne 5 5 (by decide) c3; have q3 := mm_ne 6 6 (by decide) c4; have q4 := mm_ne 7 7 (by decide) c5; have q5 := mm_ne 8 8 (by decide) c6; have q6 := mm_ne 9 9 (by decide) c7; have q7 := mm_ne 10 10 (by decide) c8; omega) (tgt := 144) (by decide) ?_
  exact (k8 c1 c2 c3 c4 c5 c6 c7 c8)
theorem s_PN_lookAtStep_68 {E : mm_E} {Γ : mm_G} {lev kc ks ca sa : Nat} {w : mm_W} {f : mm_F} (h : mm_ok E Γ b_PN_lookAtStep 3 "PlannedTables$Plan" lev kc ks) (hw : mm_sh w) {s2 : Nat} (hs2 : s2 < 39) {vl0 vc0 vs0 : Nat} {P0 : Option Value → mm_W → mm_F → Prop} (hl0 : vl0 < lev) (hu0 : ca + vc0 ≤ kc) (hz0 : sa + vs0 ≤ ks) (m0 : mm_C E y_PN_nextColumn b_PN_nextColumn 1 none vl0 vc0 vs0 [mm_rf E 53] w f P0) (k1 : ∀ (r : Option Value) (w1 : mm_W) (f1 : mm_F), P0 r w1 f1 → mm_go E Γ 3 72 [(0, mm_rf E 53), (1, mm_rf E 2), (2, mm_rf E (56 + 2 * s2))] (r.toList ++ []) w1 f1 (ca + vc0) (sa + vs0)) : mm_go E Γ 3 68 [(0, mm_rf E 53), (1, mm_rf E 2), (2, mm_rf E (56 + 2 * s2))] [] w f ca sa := by
  refine mm_aload_n h d_PN_lookAtStep_68 0 rfl rfl ?_
  exact mm_callV (As := []) (rest := []) h m0 cv_PN_77 cm_PN_nextColumn hl0 (q0 := _) rfl rfl (is_PL hw) hu0 hz0 rfl rfl (Nat.le_of_ble_eq_true rfl) d_PN_lookAtStep_69 (fun r w1 f1 hp => k1 r w1 f1 hp)
theorem s_PN_lookAtStep_72 {E : mm_E} {Γ : mm_G} {lev kc ks ca sa : Nat} {w : mm_W} {f : mm_F} (h : mm_ok E Γ b_PN_lookAtStep 3 "PlannedTables$Plan" lev kc ks) (hw : mm_sh w) {s2 : Nat} (hs2 : s2 < 39) {vl0 vc0 vs0 : Nat} {P0 : Option Value → mm_W → mm_F → Prop} (hl0 : vl0 < lev) (hu0 : ca + vc0 ≤ kc) (hz0 : sa + vs0 ≤ ks) (m0 : mm_C E y_PN_next b_PN_next 3 (some .int) vl0 vc0 vs0 [mm_rf E 53, .int 0, .int 5] w f P0) (k1 : ∀ (r : Option Value) (w1 : mm_W) (f1 : mm_F), P0 r w1 f1 → mm_go E Γ 3 78 [(0, mm_rf E 53), (1, mm_rf E 2), (2, mm_rf E (56 + 2 * s2))] (r.toList ++ []) w1 f1 (ca + vc0) (sa + vs0)) : mm_go E Γ 3 72 [(0, mm_rf E 53), (1, mm_rf E 2), (2, mm_rf E (56 + 2 * s2))] [] w f ca sa := by
  refine mm_aload_n h d_PN_lookAtStep_72 0 rfl rfl ?_
  refine mm_iconst (v := 0) h d_PN_lookAtStep_73 (by decide) ?_
  refine mm_iconst (v := 5) h d_PN_lookAtStep_74 (by decide) ?_
  exact mm_callV (As := [.int 0, .int 5]) (rest := []) h m0 cv_PN_49 cm_PN_next hl0 (q0 := _) rfl rfl (is_PL hw) hu0 hz0 rfl rfl (Nat.le_of_ble_eq_true rfl) d_PN_lookAtStep_75 (fun r w1 f1 hp => k1 r w1 f1 hp)
theorem s_PN_lookAtStep_78 {E : mm_E} {Γ : mm_G} {lev kc ks ca sa : Nat} {w : mm_W} {f : mm_F} (h : mm_ok E Γ b_PN_lookAtStep 3 "PlannedTables$Plan" lev kc ks) (hw : mm_sh w) {s2 : Nat} (hs2 : s2 < 39) {xk0 : Int32} {vl0 vc0 vs0 : Nat} {P0 : Option Value → mm_W → mm_F → Prop} (hl0 : vl0 < lev) (hu0 : ca + vc0 ≤ kc) (hz0 : sa + vs0 ≤ ks) (m0 : mm_C E y_PN_nextAny b_PN_nextAny 1 none vl0 vc0 vs0 [mm_rf E 53] w f P0) (k1 : ∀ (r : Option Value) (w1 : mm_W) (f1 : mm_F), P0 r w1 f1 → mm_go E Γ 3 83 [(0, mm_rf E 53), (1, mm_rf E 2), (2, mm_rf E (56 + 2 * s2))] (r.toList ++ []) w1 f1 (ca + vc0) (sa + vs0)) : mm_go E Γ 3 78 [(0, mm_rf E 53), (1, mm_rf E 2), (2, mm_rf E (56 + 2 * s2))] [.int xk0] w f ca sa := by
  refine mm_pop h d_PN_lookAtStep_78 rfl ?_
  refine mm_aload_n h d_PN_lookAtStep_79 0 rfl rfl ?_
  exact mm_callV (As := []) (rest := []) h m0 cv_PN_69 cm_PN_nextAny hl0 (q0 := _) rfl rfl (is_PL hw) hu0 hz0 rfl rfl (Nat.le_of_ble_eq_true rfl) d_PN_lookAtStep_80 (fun r w1 f1 hp => k1 r w1 f1 hp)
theorem s_PN_lookAtStep_83 {E : mm_E} {Γ : mm_G} {lev kc ks ca sa : Nat} {w : mm_W} {f : mm_F} (h : mm_ok E Γ b_PN_lookAtStep 3 "PlannedTables$Plan" lev kc ks) (hw : mm_sh w) {s2 : Nat} (hs2 : s2 < 39) (k0 : mm_go E Γ 3 144 [(0, mm_rf E 53), (1, mm_rf E 2), (2, mm_rf E (56 + 2 * s2))] [] w f ca sa) : mm_go E Γ 3 83 [(0, mm_rf E 53), (1, mm_rf E 2), (2, mm_rf E (56 + 2 * s2))] [] w f ca sa := by
  refine mm_goto h d_PN_lookAtStep_83 (tgt := 144) (by decide) ?_
  exact k0
theorem s_PN_lookAtStep_86 {E : mm_E} {Γ : mm_G} {lev kc ks ca sa : Nat} {w : mm_W} {f : mm_F} (h : mm_ok E Γ b_PN_lookAtStep 3 "PlannedTables$Plan" lev kc ks) (hw : mm_sh w) {s2 : Nat} (hs2 : s2 < 39) {vl0 vc0 vs0 : Nat} {P0 : Option Value → mm_W → mm_F → Prop} (hl0 : vl0 < lev) (hu0 : ca + vc0 ≤ kc) (hz0 : sa + vs0 ≤ ks) (m0 : mm_C E y_PN_lookAtPick b_PN_lookAtPick 3 none vl0 vc0 vs0 [mm_rf E 53] w f P0) (k1 : ∀ (r : Option Value) (w1 : mm_W) (f1 : mm_F), P0 r w1 f1 → mm_go E Γ 3 90 [(0, mm_rf E 53), (1, mm_rf E 2), (2, mm_rf E (56 + 2 * s2))] (r.toList ++ []) w1 f1 (ca + vc0) (sa + vs0)) : mm_go E Γ 3 86 [(0, mm_rf E 53), (1, mm_rf E 2), (2, mm_rf E (56 + 2 * s2))] [] w f ca sa := by
  refine mm_aload_n h d_PN_lookAtStep_86 0 rfl rfl ?_
  exact mm_callV (As := []) (rest := []) h m0 cv_PN_80 cm_PN_lookAtPick hl0 (q0 := _) rfl rfl (is_PL hw) hu0 hz0 rfl rfl (Nat.le_of_ble_eq_true rfl) d_PN_lookAtStep_87 (fun r w1 f1 hp => k1 r w1 f1 hp)
theorem s_PN_lookAtStep_90 {E : mm_E} {Γ : mm_G} {lev kc ks ca sa : Nat} {w : mm_W} {f : mm_F} (h : mm_ok E Γ b_PN_lookAtStep 3 "PlannedTables$Plan" lev kc ks) (hw : mm_sh w) {s2 : Nat} (hs2 : s2 < 39) (k0 : mm_go E Γ 3 144 [(0, mm_rf E 53), (1, mm_rf E 2), (2, mm_rf E (56 + 2 * s2))] [] w f ca sa) : mm_go E Γ 3 90 [(0, mm_rf E 53), (1, mm_rf E 2), (2, mm_rf E (56 + 2 * s2))] [] w f ca sa := by
  refine mm_goto h d_PN_lookAtStep_90 (tgt := 144) (by decide) ?_
  exact k0
theorem s_PN_lookAtStep_93 {E : mm_E} {Γ : mm_G} {lev kc ks ca sa : Nat} {w : mm_W} {f : mm_F} (h : mm_ok E Γ b_PN_lookAtStep 3 "PlannedTables$Plan" lev kc ks) (hw : mm_sh w) {s2 : Nat} (hs2 : s2 < 39) {vl0 vc0 vs0 : Nat} {P0 : Option Value → mm_W → mm_F → Prop} (hl0 : vl0 < lev) (hu0 : ca + vc0 ≤ kc) (hz0 : sa + vs0 ≤ ks) (m0 : mm_C E y_PN_lookAtJoin b_PN_lookAtJoin 4 none vl0 vc0 vs0 [mm_rf E 53, mm_rf E 2] w f P0) (k1 : ∀ (r : Option Value) (w1 : mm_W) (f1 : mm_F), P0 r w1 f1 → mm_go E Γ 3 98 [(0, mm_rf E 53), (1, mm_rf E 2), (2, mm_rf E (56 + 2 * s2))] (r.toList ++ []) w1 f1 (ca + vc0) (sa + vs0)) : mm_go E Γ 3 93 [(0, mm_rf E 53), (1, mm_rf E 2), (2, mm_rf E (56 + 2 * s2))] [] w f ca sa := by
  refine mm_aload_n h d_PN_lookAtStep_93 0 rfl rfl ?_
  refine mm_aload_n h d_PN_lookAtStep_94 1 rfl rfl ?_
  exact mm_callV (As := [mm_rf E 2]) (rest := []) h m0 cv_PN_83 cm_PN_lookAtJoin hl0 (q0 := _) rfl rfl (is_PL hw) hu0 hz0 rfl rfl (Nat.le_of_ble_eq_true rfl) d_PN_lookAtStep_95 (fun r w1 f1 hp => k1 r w1 f1 hp)
theorem s_PN_lookAtStep_98 {E : mm_E} {Γ : mm_G} {lev kc ks ca sa : Nat} {w : mm_W} {f : mm_F} (h : mm_ok E Γ b_PN_lookAtStep 3 "PlannedTables$Plan" lev kc ks) (hw : mm_sh w) {s2 : Nat} (hs2 : s2 < 39) (k0 : mm_go E Γ 3 144 [(0, mm_rf E 53), (1, mm_rf E 2), (2, mm_rf E (56 + 2 * s2))] [] w f ca sa) : mm_go E Γ 3 98 [(0, mm_rf E 53), (1, mm_rf E 2), (2, mm_rf E (56 + 2 * s2))] [] w f ca sa := by
  refine mm_goto h d_PN_lookAtStep_98 (tgt := 144) (by decide) ?_
  exact k0
theorem s_PN_lookAtStep_101 {E : mm_E} {Γ : mm_G} {lev kc ks ca sa : Nat} {w : mm_W} {f : mm_F} (h : mm_ok E Γ b_PN_lookAtStep 3 "PlannedTables$Plan" lev kc ks) (hw : mm_sh w) {s2 : Nat} (hs2 : s2 < 39) {vl0 vc0 vs0 : Nat} {P0 : Option Value → mm_W → mm_F → Prop} (hl0 : vl0 < lev) (hu0 : ca + vc0 ≤ kc) (hz0 : sa + vs0 ≤ ks) (m0 : mm_C E y_PN_next b_PN_next 3 (some .int) vl0 vc0 vs0 [mm_rf E 53, .int 0, .int 2147483647] w f P0) (k1 : ∀ (r : Option Value) (w1 : mm_W) (f1 : mm_F), P0 r w1 f1 → mm_go E Γ 3 108 [(0, mm_rf E 53), (1, mm_rf E 2), (2, mm_rf E (56 + 2 * s2))] (r.toList ++ []) w1 f1 (ca + vc0) (sa + vs0)) : mm_go E Γ 3 101 [(0, mm_rf E 53), (1, mm_rf E 2), (2, mm_rf E (56 + 2 * s2))] [] w f ca sa := by
  refine mm_aload_n h d_PN_lookAtStep_101 0 rfl rfl ?_
  refine mm_iconst (v := 0) h d_PN_lookAtStep_102 (by decide) ?_
  refine mm_ldc (v := 2147483647) h nw_241 d_PN_lookAtStep_103 ?_
  exact mm_callV (As := [.int 0, .int 2147483647]) (rest := []) h m0 cv_PN_49 cm_PN_next hl0 (q0 := _) rfl rfl (is_PL hw) hu0 hz0 rfl rfl (Nat.le_of_ble_eq_true rfl) d_PN_lookAtStep_105 (fun r w1 f1 hp => k1 r w1 f1 hp)
theorem s_PN_lookAtStep_108 {E : mm_E} {Γ : mm_G} {lev kc ks ca sa : Nat} {w : mm_W} {f : mm_F} (h : mm_ok E Γ b_PN_lookAtStep 3 "PlannedTables$Plan" lev kc ks) (hw : mm_sh w) {s2 : Nat} (hs2 : s2 < 39) {xk0 : Int32} (k0 : mm_go E Γ 3 144 [(0, mm_rf E 53), (1, mm_rf E 2), (2, mm_rf E (56 + 2 * s2))] [] w f ca sa) : mm_go E Γ 3 108 [(0, mm_rf E 53), (1, mm_rf E 2), (2, mm_rf E (56 + 2 * s2))] [.int xk0] w f ca sa := by
  refine mm_pop h d_PN_lookAtStep_108 rfl ?_
  refine mm_goto h d_PN_lookAtStep_109 (tgt := 144) (by decide) ?_
  exact k0
theorem s_PN_lookAtStep_112 {E : mm_E} {Γ : mm_G} {lev kc ks ca sa : Nat} {w : mm_W} {f : mm_F} (h : mm_ok E Γ b_PN_lookAtStep 3 "PlannedTables$Plan" lev kc ks) (hw : mm_sh w) {s2 : Nat} (hs2 : s2 < 39) (k0 : mm_go E Γ 3 144 [(0, mm_rf E 53), (1, mm_rf E 2), (2, mm_rf E (56 + 2 * s2))] [] w (mm_up f 53 3 1) ca sa) : mm_go E Γ 3 112 [(0, mm_rf E 53), (1, mm_rf E 2), (2, mm_rf E (56 + 2 * s2))] [] w f ca sa := by
  refine mm_aload_n h d_PN_lookAtStep_112 0 rfl rfl ?_
  refine mm_iconst (v := 1) h d_PN_lookAtStep_113 (by decide) ?_
  refine mm_puti h fl_PN_26 (Or.inl rfl) rfl rfl rfl (is_PL hw) d_PN_lookAtStep_114 ?_
  refine mm_goto h d_PN_lookAtStep_117 (tgt := 144) (by decide) ?_
  exact k0
theorem s_PN_lookAtStep_120 {E : mm_E} {Γ : mm_G} {lev kc ks ca sa : Nat} {w : mm_W} {f : mm_F} (h : mm_ok E Γ b_PN_lookAtStep 3 "PlannedTables$Plan" lev kc ks) (hw : mm_sh w) {s2 : Nat} (hs2 : s2 < 39) {vl0 vc0 vs0 : Nat} {P0 : Option Value → mm_W → mm_F → Prop} (hl0 : vl0 < lev) (hu0 : ca + vc0 ≤ kc) (hz0 : sa + vs0 ≤ ks) (m0 : mm_C E y_PN_nextColumn b_PN_nextColumn 1 none vl0 vc0 vs0 [mm_rf E 53] w f P0) (k1 : ∀ (r : Option Value) (w1 : mm_W) (f1 : mm_F), P0 r w1 f1 → mm_go E Γ 3 124 [(0, mm_rf E 53), (1, mm_rf E 2), (2, mm_rf E (56 + 2 * s2))] (r.toList ++ []) w1 f1 (ca + vc0) (sa + vs0)) : mm_go E Γ 3 120 [(0, mm_rf E 53), (1, mm_rf E 2), (2, mm_rf E (56 + 2 * s2))] [] w f ca sa := by
  refine mm_aload_n h d_PN_lookAtStep_120 0 rfl rfl ?_
  exact mm_callV (As := []) (rest := []) h m0 cv_PN_77 cm_PN_nextColumn hl0 (q0 := _) rfl rfl (is_PL hw) hu0 hz0 rfl rfl (Nat.le_of_ble_eq_true rfl) d_PN_lookAtStep_121 (fun r w1 f1 hp => k1 r w1 f1 hp)
theorem s_PN_lookAtStep_124 {E : mm_E} {Γ : mm_G} {lev kc ks ca sa : Nat} {w : mm_W} {f : mm_F} (h : mm_ok E Γ b_PN_lookAtStep 3 "PlannedTables$Plan" lev kc ks) (hw : mm_sh w) {s2 : Nat} (hs2 : s2 < 39) (k0 : mm_go E Γ 3 144 [(0, mm_rf E 53), (1, mm_rf E 2), (2, mm_rf E (56 + 2 * s2))] [] w (mm_up f 53 3 1) ca sa) : mm_go E Γ 3 124 [(0, mm_rf E 53), (1, mm_rf E 2), (2, mm_rf E (56 + 2 * s2))] [] w f ca sa := by
  refine mm_aload_n h d_PN_lookAtStep_124 0 rfl rfl ?_
  refine mm_iconst (v := 1) h d_PN_lookAtStep_125 (by decide) ?_
  refine mm_puti h fl_PN_26 (Or.inl rfl) rfl rfl rfl (is_PL hw) d_PN_lookAtStep_126 ?_
  refine mm_goto h d_PN_lookAtStep_129 (tgt := 144) (by decide) ?_
  exact k0
theorem s_PN_lookAtStep_132 {E : mm_E} {Γ : mm_G} {lev kc ks ca sa : Nat} {w : mm_W} {f : mm_F} (h : mm_ok E Γ b_PN_lookAtStep 3 "PlannedTables$Plan" lev kc ks) (hw : mm_sh w) {s2 : Nat} (hs2 : s2 < 39) {vl0 vc0 vs0 : Nat} {P0 : Option Value → mm_W → mm_F → Prop} (hl0 : vl0 < lev) (hu0 : ca + vc0 ≤ kc) (hz0 : sa + vs0 ≤ ks) (m0 : mm_C E y_PN_nextColumn b_PN_nextColumn 1 none vl0 vc0 vs0 [mm_rf E 53] w f P0) (k1 : ∀ (r : Option Value) (w1 : mm_W) (f1 : mm_F), P0 r w1 f1 → mm_go E Γ 3 136 [(0, mm_rf E 53), (1, mm_rf E 2), (2, mm_rf E (56 + 2 * s2))] (r.toList ++ []) w1 f1 (ca + vc0) (sa + vs0)) : mm_go E Γ 3 132 [(0, mm_rf E 53), (1, mm_rf E 2), (2, mm_rf E (56 + 2 * s2))] [] w f ca sa := by
  refine mm_aload_n h d_PN_lookAtStep_132 0 rfl rfl ?_
  exact mm_callV (As := []) (rest := []) h m0 cv_PN_77 cm_PN_nextColumn hl0 (q0 := _) rfl rfl (is_PL hw) hu0 hz0 rfl rfl (Nat.le_of_ble_eq_true rfl) d_PN_lookAtStep_133 (fun r w1 f1 hp => k1 r w1 f1 hp)
theorem s_PN_lookAtStep_136 {E : mm_E} {Γ : mm_G} {lev kc ks ca sa : Nat} {w : mm_W} {f : mm_F} (h : mm_ok E Γ b_PN_lookAtStep 3 "PlannedTables$Plan" lev kc ks) (hw : mm_sh w) {s2 : Nat} (hs2 : s2 < 39) (k0 : mm_go E Γ 3 144 [(0, mm_rf E 53), (1, mm_rf E 2), (2, mm_rf E (56 + 2 * s2))] [] w (mm_up f 53 3 2) ca sa) : mm_go E Γ 3 136 [(0, mm_rf E 53), (1, mm_rf E 2), (2, mm_rf E (56 + 2 * s2))] [] w f ca sa := by
  refine mm_aload_n h d_PN_lookAtStep_136 0 rfl rfl ?_
  refine mm_iconst (v := 2) h d_PN_lookAtStep_137 (by decide) ?_
  refine mm_puti h fl_PN_26 (Or.inl rfl) rfl rfl rfl (is_PL hw) d_PN_lookAtStep_138 ?_
  refine mm_goto h d_PN_lookAtStep_141 (tgt := 144) (by decide) ?_
  exact k0
theorem s_PN_lookAtStep_144 {E : mm_E} {Γ : mm_G} {lev kc ks ca sa : Nat} {w : mm_W} {f : mm_F} {Post : Option Value → mm_W → mm_F → Prop} (h : mm_ok E Γ b_PN_lookAtStep 3 "PlannedTables$Plan" lev kc ks) (he : mm_end E Γ none kc ks Post y_PN_lookAtStep.name) (hca : ca ≤ kc) (hsa : sa ≤ ks) (hw : mm_sh w) {s2 : Nat} (hs2 : s2 < 39) (k0 : Post none w f) : mm_go E Γ 3 144 [(0, mm_rf E 53), (1, mm_rf E 2), (2, mm_rf E (56 + 2 * s2))] [] w f ca sa := by
  exact mm_vret h he d_PN_lookAtStep_144 hca hsa k0
theorem d_PN_lookAtPick_0 : decode b_PN_lookAtPick 0 = .ok (.aload_n 0, 1) := by decide +kernel
theorem d_PN_lookAtPick_1 : decode b_PN_lookAtPick 1 = .ok (.iconst (1), 1) := by decide +kernel
theorem d_PN_lookAtPick_2 : decode b_PN_lookAtPick 2 = .ok (.bipush (8), 2) := by decide +kernel
theorem d_PN_lookAtPick_4 : decode b_PN_lookAtPick 4 = .ok (.invokevirtual 49, 3) := by decide +kernel
theorem d_PN_lookAtPick_7 : decode b_PN_lookAtPick 7 = .ok (.istore_n 1, 1) := by decide +kernel
theorem d_PN_lookAtPick_8 : decode b_PN_lookAtPick 8 = .ok (.iconst (0), 1) := by decide +kernel
theorem d_PN_lookAtPick_9 : decode b_PN_lookAtPick 9 = .ok (.istore_n 2, 1) := by decide +kernel
theorem d_PN_lookAtPick_10 : decode b_PN_lookAtPick 10 = .ok (.iload_n 2, 1) := by decide +kernel
theorem d_PN_lookAtPick_11 : decode b_PN_lookAtPick 11 = .ok (.iload_n 1, 1) := by decide +kernel
theorem d_PN_lookAtPick_12 : decode b_PN_lookAtPick 12 = .ok (.if_icmp .ge (13), 3) := by decide +kernel
theorem d_PN_lookAtPick_15 : decode b_PN_lookAtPick 15 = .ok (.aload_n 0, 1) := by decide +kernel
theorem d_PN_lookAtPick_16 : decode b_PN_lookAtPick 16 = .ok (.invokevirtual 77, 3) := by decide +kernel
theorem d_PN_lookAtPick_19 : decode b_PN_lookAtPick 19 = .ok (.iinc 2 (1), 3) := by decide +kernel
theorem d_PN_lookAtPick_22 : decode b_PN_lookAtPick 22 = .ok (.goto (-12), 3) := by decide +kernel
theorem d_PN_lookAtPick_25 : decode b_PN_lookAtPick 25 = .ok (.aload_n 0, 1) := by decide +kernel
theorem d_PN_lookAtPick_26 : decode b_PN_lookAtPick 26 = .ok (.iload_n 1, 1) := by decide +kernel
theorem d_PN_lookAtPick_27 : decode b_PN_lookAtPick 27 = .ok (.putfield 26, 3) := by decide +kernel
theorem d_PN_lookAtPick_30 : decode b_PN_lookAtPick 30 = .ok (.return_, 1) := by decide +kernel
theorem s_PN_lookAtPick_0 {E : mm_E} {Γ : mm_G} {lev kc ks ca sa : Nat} {w : mm_W} {f : mm_F} (h : mm_ok E Γ b_PN_lookAtPick 3 "PlannedTables$Plan" lev kc ks) (hw : mm_sh w)  {vl0 vc0 vs0 : Nat} {P0 : Option Value → mm_W → mm_F → Prop} (hl0 : vl0 < lev) (hu0 : ca + vc0 ≤ kc) (hz0 : sa + vs0 ≤ ks) (m0 : mm_C E y_PN_next b_PN_next 3 (some .int) vl0 vc0 vs0 [mm_rf E 53, .int 1, .int 8] w f P0) (k1 : ∀ (r : Option Value) (w1 : mm_W) (f1 : mm_F), P0 r w1 f1 → mm_go E Γ 3 7 [(0, mm_rf E 53)] (r.toList ++ []) w1 f1 (ca + vc0) (sa + vs0)) : mm_go E Γ 3 0 [(0, mm_rf E 53)] [] w f ca sa := by
  refine mm_aload_n h d_PN_lookAtPick_0 0 rfl rfl ?_
  refine mm_iconst (v := 1) h d_PN_lookAtPick_1 (by decide) ?_
  refine mm_bipush (v := 8) h d_PN_lookAtPick_2 (by decide) ?_
  exact mm_callV (As := [.int 1, .int 8]) (rest := []) h m0 cv_PN_49 cm_PN_next hl0 (q0 := _) rfl rfl (is_PL hw) hu0 hz0 rfl rfl (Nat.le_of_ble_eq_true rfl) d_PN_lookAtPick_4 (fun r w1 f1 hp => k1 r w1 f1 hp)
theorem s_PN_lookAtPick_7 {E : mm_E} {Γ : mm_G} {lev kc ks ca sa : Nat} {w : mm_W} {f : mm_F} (h : mm_ok E Γ b_PN_lookAtPick 3 "PlannedTables$Plan" lev kc ks) (hw : mm_sh w) {xk0 : Int32} (k0 : mm_go E Γ 3 10 [(0, mm_rf E 53), (1, .int xk0), (2, .int 0)] [] w f ca sa) : mm_go E Γ 3 7 [(0, mm_rf E 53)] [.int xk0] w f ca sa := by
  refine mm_istore_n (lv' := [(1, .int xk0), (0, mm_rf E 53)]) h d_PN_lookAtPick_7 rfl (by decide) rfl ?_
  refine mm_iconst (v := 0) h d_PN_lookAtPick_8 (by decide) ?_
  refine mm_istore_n (lv' := [(2, .int 0), (1, .int xk0), (0, mm_rf E 53)]) h d_PN_lookAtPick_9 rfl (by decide) rfl ?_
  refine mm_sub [2, 1, 0] rfl ?_
  exact k0
theorem s_PN_lookAtPick_10 {E : mm_E} {Γ : mm_G} {lev kc ks ca sa : Nat} {w : mm_W} {f : mm_F} {Post : Option Value → mm_W → mm_F → Prop} (h : mm_ok E Γ b_PN_lookAtPick 3 "PlannedTables$Plan" lev kc ks) (he : mm_end E Γ none kc ks Post y_PN_lookAtPick.name) (hca : ca ≤ kc) (hsa : sa ≤ ks) (hw : mm_sh w) {x1 : Int32} {x2 : Int32} (k0 : x1 ≤ x2 → Post none w (mm_up f 53 3 x1)) {vl0 vc0 vs0 : Nat} {P0 : Option Value → mm_W → mm_F → Prop} (hl0 : vl0 < lev) (hu0 : ca + vc0 ≤ kc) (hz0 : sa + vs0 ≤ ks) (m1 : ¬ x1 ≤ x2 → mm_C E y_PN_nextColumn b_PN_nextColumn 1 none vl0 vc0 vs0 [mm_rf E 53] w f P0) (k2 : ¬ x1 ≤ x2 → ∀ (r : Option Value) (w1 : mm_W) (f1 : mm_F), P0 r w1 f1 → mm_go E Γ 3 19 [(0, mm_rf E 53), (1, .int x1), (2, .int x2)] (r.toList ++ []) w1 f1 (ca + vc0) (sa + vs0)) : mm_go E Γ 3 10 [(0, mm_rf E 53), (1, .int x1), (2, .int x2)] [] w f ca sa := by
  refine mm_iload_n h d_PN_lookAtPick_10 2 rfl rfl ?_
  refine mm_iload_n h d_PN_lookAtPick_11 1 rfl rfl ?_
  refine mm_icmp_ge h d_PN_lookAtPick_12 (tgt := 25) (by decide) (fun c1 => ?_) (fun c1 => ?_)
  · skip
    refine mm_aload_n h d_PN_lookAtPick_25 0 rfl rfl ?_
    refine mm_iload_n h d_PN_lookAtPick_26 1 rfl rfl ?_
    refine mm_puti h fl_PN_26 (Or.inl rfl) rfl rfl rfl (is_PL hw) d_PN_lookAtPick_27 ?_
    exact mm_vret h he d_PN_lookAtPick_30 hca hsa (k0 c1)
  · skip
    refine mm_aload_n h d_PN_lookAtPick_15 0 rfl rfl ?_
    exact mm_callV (As := []) (rest := []) h (m1 c1) cv_PN_77 cm_PN_nextColumn hl0 (q0 := _) rfl rfl (is_PL hw) hu0 hz0 rfl rfl (Nat.le_of_ble_eq_true rfl) d_PN_lookAtPick_16 (fun r w1 f1 hp => (k2 c1) r w1 f1 hp)
theorem s_PN_lookAtPick_19 {E : mm_E} {Γ : mm_G} {lev kc ks ca sa : Nat} {w : mm_W} {f : mm_F} (h : mm_ok E Γ b_PN_lookAtPick 3 "PlannedTables$Plan" lev kc ks) (hw : mm_sh w) {x1 : Int32} {x2 : Int32} (k0 : mm_go E Γ 3 10 [(0, mm_rf E 53), (1, .int x1), (2, .int (x2 + 1))] [] w f ca sa) : mm_go E Γ 3 19 [(0, mm_rf E 53), (1, .int x1), (2, .int x2)] [] w f ca sa := by
  refine mm_iinc (lv' := [(2, .int (x2 + 1)), (0, mm_rf E 53), (1, .int x1)]) h d_PN_lookAtPick_19 2 rfl (congrArg (fun z => x2 + z) lit1) (by decide) rfl ?_
  refine mm_goto h d_PN_lookAtPick_22 (tgt := 10) (by decide) ?_
  refine mm_sub [1, 2, 0] rfl ?_
  exact k0
theorem d_PN_lookAtJoin_0 : decode b_PN_lookAtJoin 0 = .ok (.aload_n 0, 1) := by decide +kernel
theorem d_PN_lookAtJoin_1 : decode b_PN_lookAtJoin 1 = .ok (.iconst (0), 1) := by decide +kernel
theorem d_PN_lookAtJoin_2 : decode b_PN_lookAtJoin 2 = .ok (.aload_n 1, 1) := by decide +kernel
theorem d_PN_lookAtJoin_3 : decode b_PN_lookAtJoin 3 = .ok (.getfield 56, 3) := by decide +kernel
theorem d_PN_lookAtJoin_6 : decode b_PN_lookAtJoin 6 = .ok (.iconst (1), 1) := by decide +kernel
theorem d_PN_lookAtJoin_7 : decode b_PN_lookAtJoin 7 = .ok (.isub, 1) := by decide +kernel
theorem d_PN_lookAtJoin_8 : decode b_PN_lookAtJoin 8 = .ok (.invokevirtual 49, 3) := by decide +kernel
theorem d_PN_lookAtJoin_11 : decode b_PN_lookAtJoin 11 = .ok (.istore_n 2, 1) := by decide +kernel
theorem d_PN_lookAtJoin_12 : decode b_PN_lookAtJoin 12 = .ok (.aload_n 0, 1) := by decide +kernel
theorem d_PN_lookAtJoin_13 : decode b_PN_lookAtJoin 13 = .ok (.getfield 22, 3) := by decide +kernel
theorem d_PN_lookAtJoin_16 : decode b_PN_lookAtJoin 16 = .ok (.iconst (-1), 1) := by decide +kernel
theorem d_PN_lookAtJoin_17 : decode b_PN_lookAtJoin 17 = .ok (.if_icmp .eq (4), 3) := by decide +kernel
theorem d_PN_lookAtJoin_20 : decode b_PN_lookAtJoin 20 = .ok (.return_, 1) := by decide +kernel
theorem d_PN_lookAtJoin_21 : decode b_PN_lookAtJoin 21 = .ok (.aload_n 0, 1) := by decide +kernel
theorem d_PN_lookAtJoin_22 : decode b_PN_lookAtJoin 22 = .ok (.getfield 26, 3) := by decide +kernel
theorem d_PN_lookAtJoin_25 : decode b_PN_lookAtJoin 25 = .ok (.aload_n 1, 1) := by decide +kernel
theorem d_PN_lookAtJoin_26 : decode b_PN_lookAtJoin 26 = .ok (.getfield 61, 3) := by decide +kernel
theorem d_PN_lookAtJoin_29 : decode b_PN_lookAtJoin 29 = .ok (.iload_n 2, 1) := by decide +kernel
theorem d_PN_lookAtJoin_30 : decode b_PN_lookAtJoin 30 = .ok (.aaload, 1) := by decide +kernel
theorem d_PN_lookAtJoin_31 : decode b_PN_lookAtJoin 31 = .ok (.getfield 72, 3) := by decide +kernel
theorem d_PN_lookAtJoin_34 : decode b_PN_lookAtJoin 34 = .ok (.iadd, 1) := by decide +kernel
theorem d_PN_lookAtJoin_35 : decode b_PN_lookAtJoin 35 = .ok (.istore_n 3, 1) := by decide +kernel
theorem d_PN_lookAtJoin_36 : decode b_PN_lookAtJoin 36 = .ok (.iload_n 3, 1) := by decide +kernel
theorem d_PN_lookAtJoin_37 : decode b_PN_lookAtJoin 37 = .ok (.bipush (8), 2) := by decide +kernel
theorem d_PN_lookAtJoin_39 : decode b_PN_lookAtJoin 39 = .ok (.if_icmp .le (13), 3) := by decide +kernel
theorem d_PN_lookAtJoin_42 : decode b_PN_lookAtJoin 42 = .ok (.aload_n 0, 1) := by decide +kernel
theorem d_PN_lookAtJoin_43 : decode b_PN_lookAtJoin 43 = .ok (.aload_n 0, 1) := by decide +kernel
theorem d_PN_lookAtJoin_44 : decode b_PN_lookAtJoin 44 = .ok (.getfield 32, 3) := by decide +kernel
theorem d_PN_lookAtJoin_47 : decode b_PN_lookAtJoin 47 = .ok (.iconst (1), 1) := by decide +kernel
theorem d_PN_lookAtJoin_48 : decode b_PN_lookAtJoin 48 = .ok (.isub, 1) := by decide +kernel
theorem d_PN_lookAtJoin_49 : decode b_PN_lookAtJoin 49 = .ok (.putfield 22, 3) := by decide +kernel
theorem d_PN_lookAtJoin_52 : decode b_PN_lookAtJoin 52 = .ok (.aload_n 0, 1) := by decide +kernel
theorem d_PN_lookAtJoin_53 : decode b_PN_lookAtJoin 53 = .ok (.aload_n 1, 1) := by decide +kernel
theorem d_PN_lookAtJoin_54 : decode b_PN_lookAtJoin 54 = .ok (.getfield 61, 3) := by decide +kernel
theorem d_PN_lookAtJoin_57 : decode b_PN_lookAtJoin 57 = .ok (.iload_n 2, 1) := by decide +kernel
theorem d_PN_lookAtJoin_58 : decode b_PN_lookAtJoin 58 = .ok (.aaload, 1) := by decide +kernel
theorem d_PN_lookAtJoin_59 : decode b_PN_lookAtJoin 59 = .ok (.invokevirtual 65, 3) := by decide +kernel
theorem d_PN_lookAtJoin_62 : decode b_PN_lookAtJoin 62 = .ok (.aload_n 0, 1) := by decide +kernel
theorem d_PN_lookAtJoin_63 : decode b_PN_lookAtJoin 63 = .ok (.invokevirtual 77, 3) := by decide +kernel
theorem d_PN_lookAtJoin_66 : decode b_PN_lookAtJoin 66 = .ok (.aload_n 0, 1) := by decide +kernel
theorem d_PN_lookAtJoin_67 : decode b_PN_lookAtJoin 67 = .ok (.iload_n 3, 1) := by decide +kernel
theorem d_PN_lookAtJoin_68 : decode b_PN_lookAtJoin 68 = .ok (.putfield 26, 3) := by decide +kernel
theorem d_PN_lookAtJoin_71 : decode b_PN_lookAtJoin 71 = .ok (.return_, 1) := by decide +kernel
theorem s_PN_lookAtJoin_0 {E : mm_E} {Γ : mm_G} {lev kc ks ca sa : Nat} {w : mm_W} {f : mm_F} (h : mm_ok E Γ b_PN_lookAtJoin 4 "PlannedTables$Plan" lev kc ks) (hw : mm_sh w)  {vl0 vc0 vs0 : Nat} {P0 : Option Value → mm_W → mm_F → Prop} (hl0 : vl0 < lev) (hu0 : ca + vc0 ≤ kc) (hz0 : sa + vs0 ≤ ks) (m0 : mm_C E y_PN_next b_PN_next 3 (some .int) vl0 vc0 vs0 [mm_rf E 53, .int 0, .int ((f 2 1) - 1)] w f P0) (k1 : ∀ (r : Option Value) (w1 : mm_W) (f1 : mm_F), P0 r w1 f1 → mm_go E Γ 4 11 [(0, mm_rf E 53), (1, mm_rf E 2)] (r.toList ++ []) w1 f1 (ca + vc0) (sa + vs0)) : mm_go E Γ 4 0 [(0, mm_rf E 53), (1, mm_rf E 2)] [] w f ca sa := by
  refine mm_aload_n h d_PN_lookAtJoin_0 0 rfl rfl ?_
  refine mm_iconst (v := 0) h d_PN_lookAtJoin_1 (by decide) ?_
  refine mm_aload_n h d_PN_lookAtJoin_2 1 rfl rfl ?_
  refine mm_geti h fl_PN_56 rfl (is_TS hw) d_PN_lookAtJoin_3 ?_
  refine mm_iconst (v := 1) h d_PN_lookAtJoin_6 (by decide) ?_
  refine mm_isub h d_PN_lookAtJoin_7 ?_
  exact mm_callV (As := [.int 0, .int ((f 2 1) - 1)]) (rest := []) h m0 cv_PN_49 cm_PN_next hl0 (q0 := _) rfl rfl (is_PL hw) hu0 hz0 rfl rfl (Nat.le_of_ble_eq_true rfl) d_PN_lookAtJoin_8 (fun r w1 f1 hp => k1 r w1 f1 hp)
theorem s_PN_lookAtJoin_11 {E : mm_E} {Γ : mm_G} {lev kc ks ca sa : Nat} {w : mm_W} {f : mm_F} {Post : Option Value → mm_W → mm_F → Prop} (h : mm_ok E Γ b_PN_lookAtJoin 4 "PlannedTables$Plan" lev kc ks) (he : mm_end E Γ none kc ks Post y_PN_lookAtJoin.name) (hca : ca ≤ kc) (hsa : sa ≤ ks) (hw : mm_sh w) {xk0 : Int32} (b0 : (f 53 2) = (-1) → vp_in xk0 4) (k1 : (f 53 2) = (-1) → ((f 53 3) + (f (4 + 12 * (xk0).toNatClampNeg) 0)) ≤ 8 → mm_go E Γ 4 52 [(0, mm_rf E 53), (1, mm_rf E 2), (2, .int xk0), (3, .int ((f 53 3) + (f (4 + 12 * (xk0).toNatClampNeg) 0)))] [] w f ca sa) (k2 : (f 53 2) = (-1) → ¬ ((f 53 3) + (f (4 + 12 * (xk0).toNatClampNeg) 0)) ≤ 8 → mm_go E Γ 4 52 [(0, mm_rf E 53), (1, mm_rf E 2), (2, .int xk0), (3, .int ((f 53 3) + (f (4 + 12 * (xk0).toNatClampNeg) 0)))] [] w (mm_up f 53 2 ((f 53 6) - 1)) ca sa) (k3 : ¬ (f 53 2) = (-1) → Post none w f) : mm_go E Γ 4 11 [(0, mm_rf E 53), (1, mm_rf E 2)] [.int xk0] w f ca sa := by
  refine mm_istore_n (lv' := [(2, .int xk0), (0, mm_rf E 53), (1, mm_rf E 2)]) h d_PN_lookAtJoin_11 rfl (by decide) rfl ?_
  refine mm_aload_n h d_PN_lookAtJoin_12 1 rfl rfl ?_
  refine mm_geti h fl_PN_22 rfl (is_PL hw) d_PN_lookAtJoin_13 ?_
  refine mm_iconst (v := (-1)) h d_PN_lookAtJoin_16 (by decide) ?_
  refine mm_icmp_eq h d_PN_lookAtJoin_17 (tgt := 21) (by decide) (fun c1 => ?_) (fun c1 => ?_)
  · skip
    refine mm_aload_n h d_PN_lookAtJoin_21 1 rfl rfl ?_
    refine mm_geti h fl_PN_26 rfl (is_PL hw) d_PN_lookAtJoin_22 ?_
    refine mm_aload_n h d_PN_lookAtJoin_25 2 rfl rfl ?_
    refine mm_getr h fl_PN_61 rfl (is_TS hw) (rf_TS_all hw) (is_TA hw).1.1 d_PN_lookAtJoin_26 ?_
    refine mm_iload_n h d_PN_lookAtJoin_29 0 rfl rfl ?_
    refine mm_aald h 4 rfl rfl rfl (fun _ => rfl) (is_TA hw) (b0 c1) (ra_TA hw (mm_in_lt (b0 c1))) (is_T hw (mm_in_lt (b0 c1))).1 d_PN_lookAtJoin_30 ?_
    refine mm_geti h fl_PN_72 rfl (is_T hw (mm_in_lt (b0 c1))) d_PN_lookAtJoin_31 ?_
    refine mm_iadd h d_PN_lookAtJoin_34 ?_
    refine mm_istore_n (lv' := [(3, .int ((f 53 3) + (f (4 + 12 * (xk0).toNatClampNeg) 0))), (2, .int xk0), (0, mm_rf E 53), (1, mm_rf E 2)]) h d_PN_lookAtJoin_35 rfl (by decide) rfl ?_
    refine mm_iload_n h d_PN_lookAtJoin_36 0 rfl rfl ?_
    refine mm_bipush (v := 8) h d_PN_lookAtJoin_37 (by decide) ?_
    refine mm_icmp_le h d_PN_lookAtJoin_39 (tgt := 52) (by decide) (fun c2 => ?_) (fun c2 => ?_)
    · skip
      refine mm_sub [2, 3, 1, 0] rfl ?_
      exact (k1 c1 c2)
    · skip
      refine mm_aload_n h d_PN_lookAtJoin_42 2 rfl rfl ?_
      refine mm_aload_n h d_PN_lookAtJoin_43 2 rfl rfl ?_
      refine mm_geti h fl_PN_32 rfl (is_PL hw) d_PN_lookAtJoin_44 ?_
      refine mm_iconst (v := 1) h d_PN_lookAtJoin_47 (by decide) ?_
      refine mm_isub h d_PN_lookAtJoin_48 ?_
      refine mm_puti h fl_PN_22 (Or.inl rfl) rfl rfl rfl (is_PL hw) d_PN_lookAtJoin_49 ?_
      refine mm_sub [2, 3, 1, 0] rfl ?_
      exact (k2 c1 c2)
  · skip
    exact mm_vret h he d_PN_lookAtJoin_20 hca hsa (k3 c1)
theorem s_PN_lookAtJoin_52 {E : mm_E} {Γ : mm_G} {lev kc ks ca sa : Nat} {w : mm_W} {f : mm_F} (h : mm_ok E Γ b_PN_lookAtJoin 4 "PlannedTables$Plan" lev kc ks) (hw : mm_sh w) {x2 : Int32} {x3 : Int32} (b0 : vp_in x2 4) {vl0 vc0 vs0 : Nat} {P0 : Option Value → mm_W → mm_F → Prop} (hl0 : vl0 < lev) (hu0 : ca + vc0 ≤ kc) (hz0 : sa + vs0 ≤ ks) (m1 : mm_C E y_PN_nextIndexed b_PN_nextIndexed 3 none vl0 vc0 vs0 [mm_rf E 53, mm_rf E (4 + 12 * (x2).toNatClampNeg)] w f P0) (k2 : ∀ (r : Option Value) (w1 : mm_W) (f1 : mm_F), P0 r w1 f1 → mm_go E Γ 4 62 [(0, mm_rf E 53), (1, mm_rf E 2), (2, .int x2), (3, .int x3)] (r.toList ++ []) w1 f1 (ca + vc0) (sa + vs0)) : mm_go E Γ 4 52 [(0, mm_rf E 53), (1, mm_rf E 2), (2, .int x2), (3, .int x3)] [] w f ca sa := by
  refine mm_aload_n h d_PN_lookAtJoin_52 0 rfl rfl ?_
  refine mm_aload_n h d_PN_lookAtJoin_53 1 rfl rfl ?_
  refine mm_getr h fl_PN_61 rfl (is_TS hw) (rf_TS_all hw) (is_TA hw).1.1 d_PN_lookAtJoin_54 ?_
  refine mm_iload_n h d_PN_lookAtJoin_57 2 rfl rfl ?_
  refine mm_aald h 4 rfl rfl rfl (fun _ => rfl) (is_TA hw) b0 (ra_TA hw (mm_in_lt b0)) (is_T hw (mm_in_lt b0)).1 d_PN_lookAtJoin_58 ?_
  exact mm_callV (As := [mm_rf E (4 + 12 * (x2).toNatClampNeg)]) (rest := []) h m1 cv_PN_65 cm_PN_nextIndexed hl0 (q0 := _) rfl rfl (is_PL hw) hu0 hz0 rfl rfl (Nat.le_of_ble_eq_true rfl) d_PN_lookAtJoin_59 (fun r w1 f1 hp => k2 r w1 f1 hp)
theorem s_PN_lookAtJoin_62 {E : mm_E} {Γ : mm_G} {lev kc ks ca sa : Nat} {w : mm_W} {f : mm_F} (h : mm_ok E Γ b_PN_lookAtJoin 4 "PlannedTables$Plan" lev kc ks) (hw : mm_sh w) {x2 : Int32} {x3 : Int32} {vl0 vc0 vs0 : Nat} {P0 : Option Value → mm_W → mm_F → Prop} (hl0 : vl0 < lev) (hu0 : ca + vc0 ≤ kc) (hz0 : sa + vs0 ≤ ks) (m0 : mm_C E y_PN_nextColumn b_PN_nextColumn 1 none vl0 vc0 vs0 [mm_rf E 53] w f P0) (k1 : ∀ (r : Option Value) (w1 : mm_W) (f1 : mm_F), P0 r w1 f1 → mm_go E Γ 4 66 [(0, mm_rf E 53), (1, mm_rf E 2), (2, .int x2), (3, .int x3)] (r.toList ++ []) w1 f1 (ca + vc0) (sa + vs0)) : mm_go E Γ 4 62 [(0, mm_rf E 53), (1, mm_rf E 2), (2, .int x2), (3, .int x3)] [] w f ca sa := by
  refine mm_aload_n h d_PN_lookAtJoin_62 0 rfl rfl ?_
  exact mm_callV (As := []) (rest := []) h m0 cv_PN_77 cm_PN_nextColumn hl0 (q0 := _) rfl rfl (is_PL hw) hu0 hz0 rfl rfl (Nat.le_of_ble_eq_true rfl) d_PN_lookAtJoin_63 (fun r w1 f1 hp => k1 r w1 f1 hp)
theorem s_PN_lookAtJoin_66 {E : mm_E} {Γ : mm_G} {lev kc ks ca sa : Nat} {w : mm_W} {f : mm_F} {Post : Option Value → mm_W → mm_F → Prop} (h : mm_ok E Γ b_PN_lookAtJoin 4 "PlannedTables$Plan" lev kc ks) (he : mm_end E Γ none kc ks Post y_PN_lookAtJoin.name) (hca : ca ≤ kc) (hsa : sa ≤ ks) (hw : mm_sh w) {x2 : Int32} {x3 : Int32} (k0 : Post none w (mm_up f 53 3 x3)) : mm_go E Γ 4 66 [(0, mm_rf E 53), (1, mm_rf E 2), (2, .int x2), (3, .int x3)] [] w f ca sa := by
  refine mm_aload_n h d_PN_lookAtJoin_66 0 rfl rfl ?_
  refine mm_iload_n h d_PN_lookAtJoin_67 3 rfl rfl ?_
  refine mm_puti h fl_PN_26 (Or.inl rfl) rfl rfl rfl (is_PL hw) d_PN_lookAtJoin_68 ?_
  exact mm_vret h he d_PN_lookAtJoin_71 hca hsa k0
theorem d_PN_beginStep_0 : decode b_PN_beginStep 0 = .ok (.aload_n 0, 1) := by decide +kernel
theorem d_PN_beginStep_1 : decode b_PN_beginStep 1 = .ok (.getfield 17, 3) := by decide +kernel
theorem d_PN_beginStep_4 : decode b_PN_beginStep 4 = .ok (.aload_n 0, 1) := by decide +kernel
theorem d_PN_beginStep_5 : decode b_PN_beginStep 5 = .ok (.getfield 29, 3) := by decide +kernel
theorem d_PN_beginStep_8 : decode b_PN_beginStep 8 = .ok (.aaload, 1) := by decide +kernel
theorem d_PN_beginStep_9 : decode b_PN_beginStep 9 = .ok (.astore_n 1, 1) := by decide +kernel
theorem d_PN_beginStep_10 : decode b_PN_beginStep 10 = .ok (.aload_n 1, 1) := by decide +kernel
theorem d_PN_beginStep_11 : decode b_PN_beginStep 11 = .ok (.aload_n 0, 1) := by decide +kernel
theorem d_PN_beginStep_12 : decode b_PN_beginStep 12 = .ok (.getfield 32, 3) := by decide +kernel
theorem d_PN_beginStep_15 : decode b_PN_beginStep 15 = .ok (.putfield 87, 3) := by decide +kernel
theorem d_PN_beginStep_18 : decode b_PN_beginStep 18 = .ok (.aload_n 1, 1) := by decide +kernel
theorem d_PN_beginStep_19 : decode b_PN_beginStep 19 = .ok (.aload_n 0, 1) := by decide +kernel
theorem d_PN_beginStep_20 : decode b_PN_beginStep 20 = .ok (.getfield 26, 3) := by decide +kernel
theorem d_PN_beginStep_23 : decode b_PN_beginStep 23 = .ok (.putfield 90, 3) := by decide +kernel
theorem d_PN_beginStep_26 : decode b_PN_beginStep 26 = .ok (.aload_n 0, 1) := by decide +kernel
theorem d_PN_beginStep_27 : decode b_PN_beginStep 27 = .ok (.dup, 1) := by decide +kernel
theorem d_PN_beginStep_28 : decode b_PN_beginStep 28 = .ok (.getfield 29, 3) := by decide +kernel
theorem d_PN_beginStep_31 : decode b_PN_beginStep 31 = .ok (.iconst (1), 1) := by decide +kernel
theorem d_PN_beginStep_32 : decode b_PN_beginStep 32 = .ok (.iadd, 1) := by decide +kernel
theorem d_PN_beginStep_33 : decode b_PN_beginStep 33 = .ok (.putfield 29, 3) := by decide +kernel
theorem d_PN_beginStep_36 : decode b_PN_beginStep 36 = .ok (.aload_n 1, 1) := by decide +kernel
theorem d_PN_beginStep_37 : decode b_PN_beginStep 37 = .ok (.areturn, 1) := by decide +kernel
theorem s_PN_beginStep_0 {E : mm_E} {Γ : mm_G} {lev kc ks ca sa : Nat} {w : mm_W} {f : mm_F} {Post : Option Value → mm_W → mm_F → Prop} (h : mm_ok E Γ b_PN_beginStep 2 "PlannedTables$Plan" lev kc ks) (he : mm_end E Γ (some (.object "PlannedTables$Step")) kc ks Post y_PN_beginStep.name) (hca : ca ≤ kc) (hsa : sa ≤ ks) (hw : mm_sh w)  (b0 : vp_in (f 53 4) 39) (k1 : Post (some (mm_rf E (56 + 2 * ((f 53 4)).toNatClampNeg))) w (mm_up (mm_up (mm_up f (56 + 2 * ((f 53 4)).toNatClampNeg) 1 (f 53 6)) (56 + 2 * ((f 53 4)).toNatClampNeg) 2 ((mm_up f (56 + 2 * ((f 53 4)).toNatClampNeg) 1 (f 53 6)) 53 3)) 53 4 (((mm_up (mm_up f (56 + 2 * ((f 53 4)).toNatClampNeg) 1 (f 53 6)) (56 + 2 * ((f 53 4)).toNatClampNeg) 2 ((mm_up f (56 + 2 * ((f 53 4)).toNatClampNeg) 1 (f 53 6)) 53 3)) 53 4) + 1))) : mm_go E Γ 2 0 [(0, mm_rf E 53)] [] w f ca sa := by
  refine mm_aload_n h d_PN_beginStep_0 0 rfl rfl ?_
  refine mm_getr h fl_PN_17 rfl (is_PL hw) (rf_PL_steps hw) (is_SA hw).1.1 d_PN_beginStep_1 ?_
  refine mm_aload_n h d_PN_beginStep_4 0 rfl rfl ?_
  refine mm_geti h fl_PN_29 rfl (is_PL hw) d_PN_beginStep_5 ?_
  refine mm_aald h 5 rfl rfl rfl (fun _ => rfl) (is_SA hw) b0 (ra_SA hw (mm_in_lt b0)) (is_S hw (mm_in_lt b0)).1 d_PN_beginStep_8 ?_
  refine mm_astore_n (lv' := [(1, mm_rf E (56 + 2 * ((f 53 4)).toNatClampNeg)), (0, mm_rf E 53)]) h d_PN_beginStep_9 rfl (by decide) rfl ?_
  refine mm_aload_n h d_PN_beginStep_10 0 rfl rfl ?_
  refine mm_aload_n h d_PN_beginStep_11 1 rfl rfl ?_
  refine mm_geti h fl_PN_32 rfl (is_PL hw) d_PN_beginStep_12 ?_
  refine mm_puti h fl_PN_87 (Or.inl rfl) rfl rfl rfl (is_S hw (mm_in_lt b0)) d_PN_beginStep_15 ?_
  refine mm_aload_n h d_PN_beginStep_18 0 rfl rfl ?_
  refine mm_aload_n h d_PN_beginStep_19 1 rfl rfl ?_
  refine mm_geti h fl_PN_26 rfl (is_PL hw) d_PN_beginStep_20 ?_
  refine mm_puti h fl_PN_90 (Or.inl rfl) rfl rfl rfl (is_S hw (mm_in_lt b0)) d_PN_beginStep_23 ?_
  refine mm_aload_n h d_PN_beginStep_26 1 rfl rfl ?_
  refine mm_dup h d_PN_beginStep_27 rfl ?_
  refine mm_geti h fl_PN_29 rfl (is_PL hw) d_PN_beginStep_28 ?_
  refine mm_iconst (v := 1) h d_PN_beginStep_31 (by decide) ?_
  refine mm_iadd h d_PN_beginStep_32 ?_
  refine mm_puti h fl_PN_29 (Or.inl rfl) rfl rfl rfl (is_PL hw) d_PN_beginStep_33 ?_
  refine mm_aload_n h d_PN_beginStep_36 0 rfl rfl ?_
  exact mm_aret h he d_PN_beginStep_37 hca hsa k1
theorem d_PN_nextColumn_0 : decode b_PN_nextColumn 0 = .ok (.aload_n 0, 1) := by decide +kernel
theorem d_PN_nextColumn_1 : decode b_PN_nextColumn 1 = .ok (.iconst (0), 1) := by decide +kernel
theorem d_PN_nextColumn_2 : decode b_PN_nextColumn 2 = .ok (.aload_n 0, 1) := by decide +kernel
theorem d_PN_nextColumn_3 : decode b_PN_nextColumn 3 = .ok (.getfield 26, 3) := by decide +kernel
theorem d_PN_nextColumn_6 : decode b_PN_nextColumn 6 = .ok (.iconst (1), 1) := by decide +kernel
theorem d_PN_nextColumn_7 : decode b_PN_nextColumn 7 = .ok (.isub, 1) := by decide +kernel
theorem d_PN_nextColumn_8 : decode b_PN_nextColumn 8 = .ok (.invokevirtual 49, 3) := by decide +kernel
theorem d_PN_nextColumn_11 : decode b_PN_nextColumn 11 = .ok (.pop, 1) := by decide +kernel
theorem d_PN_nextColumn_12 : decode b_PN_nextColumn 12 = .ok (.return_, 1) := by decide +kernel
theorem s_PN_nextColumn_0 {E : mm_E} {Γ : mm_G} {lev kc ks ca sa : Nat} {w : mm_W} {f : mm_F} (h : mm_ok E Γ b_PN_nextColumn 1 "PlannedTables$Plan" lev kc ks) (hw : mm_sh w)  {vl0 vc0 vs0 : Nat} {P0 : Option Value → mm_W → mm_F → Prop} (hl0 : vl0 < lev) (hu0 : ca + vc0 ≤ kc) (hz0 : sa + vs0 ≤ ks) (m0 : mm_C E y_PN_next b_PN_next 3 (some .int) vl0 vc0 vs0 [mm_rf E 53, .int 0, .int ((f 53 3) - 1)] w f P0) (k1 : ∀ (r : Option Value) (w1 : mm_W) (f1 : mm_F), P0 r w1 f1 → mm_go E Γ 1 11 [(0, mm_rf E 53)] (r.toList ++ []) w1 f1 (ca + vc0) (sa + vs0)) : mm_go E Γ 1 0 [(0, mm_rf E 53)] [] w f ca sa := by
  refine mm_aload_n h d_PN_nextColumn_0 0 rfl rfl ?_
  refine mm_iconst (v := 0) h d_PN_nextColumn_1 (by decide) ?_
  refine mm_aload_n h d_PN_nextColumn_2 0 rfl rfl ?_
  refine mm_geti h fl_PN_26 rfl (is_PL hw) d_PN_nextColumn_3 ?_
  refine mm_iconst (v := 1) h d_PN_nextColumn_6 (by decide) ?_
  refine mm_isub h d_PN_nextColumn_7 ?_
  exact mm_callV (As := [.int 0, .int ((f 53 3) - 1)]) (rest := []) h m0 cv_PN_49 cm_PN_next hl0 (q0 := _) rfl rfl (is_PL hw) hu0 hz0 rfl rfl (Nat.le_of_ble_eq_true rfl) d_PN_nextColumn_8 (fun r w1 f1 hp => k1 r w1 f1 hp)
theorem s_PN_nextColumn_11 {E : mm_E} {Γ : mm_G} {lev kc ks ca sa : Nat} {w : mm_W} {f : mm_F} {Post : Option Value → mm_W → mm_F → Prop} (h : mm_ok E Γ b_PN_nextColumn 1 "PlannedTables$Plan" lev kc ks) (he : mm_end E Γ none kc ks Post y_PN_nextColumn.name) (hca : ca ≤ kc) (hsa : sa ≤ ks) (hw : mm_sh w) {xk0 : Int32} (k0 : Post none w f) : mm_go E Γ 1 11 [(0, mm_rf E 53)] [.int xk0] w f ca sa := by
  refine mm_pop h d_PN_nextColumn_11 rfl ?_
  exact mm_vret h he d_PN_nextColumn_12 hca hsa k0
theorem d_PN_nextAny_0 : decode b_PN_nextAny 0 = .ok (.aload_n 0, 1) := by decide +kernel
theorem d_PN_nextAny_1 : decode b_PN_nextAny 1 = .ok (.ldc 93, 2) := by decide +kernel
theorem d_PN_nextAny_3 : decode b_PN_nextAny 3 = .ok (.ldc 86, 2) := by decide +kernel
theorem d_PN_nextAny_5 : decode b_PN_nextAny 5 = .ok (.invokevirtual 49, 3) := by decide +kernel
theorem d_PN_nextAny_8 : decode b_PN_nextAny 8 = .ok (.pop, 1) := by decide +kernel
theorem d_PN_nextAny_9 : decode b_PN_nextAny 9 = .ok (.return_, 1) := by decide +kernel
theorem s_PN_nextAny_0 {E : mm_E} {Γ : mm_G} {lev kc ks ca sa : Nat} {w : mm_W} {f : mm_F} (h : mm_ok E Γ b_PN_nextAny 1 "PlannedTables$Plan" lev kc ks) (hw : mm_sh w)  {vl0 vc0 vs0 : Nat} {P0 : Option Value → mm_W → mm_F → Prop} (hl0 : vl0 < lev) (hu0 : ca + vc0 ≤ kc) (hz0 : sa + vs0 ≤ ks) (m0 : mm_C E y_PN_next b_PN_next 3 (some .int) vl0 vc0 vs0 [mm_rf E 53, .int (-2147483648), .int 2147483647] w f P0) (k1 : ∀ (r : Option Value) (w1 : mm_W) (f1 : mm_F), P0 r w1 f1 → mm_go E Γ 1 8 [(0, mm_rf E 53)] (r.toList ++ []) w1 f1 (ca + vc0) (sa + vs0)) : mm_go E Γ 1 0 [(0, mm_rf E 53)] [] w f ca sa := by
  refine mm_aload_n h d_PN_nextAny_0 0 rfl rfl ?_
  refine mm_ldc (v := (-2147483648)) h nw_240 d_PN_nextAny_1 ?_
  refine mm_ldc (v := 2147483647) h nw_241 d_PN_nextAny_3 ?_
  exact mm_callV (As := [.int (-2147483648), .int 2147483647]) (rest := []) h m0 cv_PN_49 cm_PN_next hl0 (q0 := _) rfl rfl (is_PL hw) hu0 hz0 rfl rfl (Nat.le_of_ble_eq_true rfl) d_PN_nextAny_5 (fun r w1 f1 hp => k1 r w1 f1 hp)
theorem s_PN_nextAny_8 {E : mm_E} {Γ : mm_G} {lev kc ks ca sa : Nat} {w : mm_W} {f : mm_F} {Post : Option Value → mm_W → mm_F → Prop} (h : mm_ok E Γ b_PN_nextAny 1 "PlannedTables$Plan" lev kc ks) (he : mm_end E Γ none kc ks Post y_PN_nextAny.name) (hca : ca ≤ kc) (hsa : sa ≤ ks) (hw : mm_sh w) {xk0 : Int32} (k0 : Post none w f) : mm_go E Γ 1 8 [(0, mm_rf E 53)] [.int xk0] w f ca sa := by
  refine mm_pop h d_PN_nextAny_8 rfl ?_
  exact mm_vret h he d_PN_nextAny_9 hca hsa k0
theorem d_PN_nextIndexed_0 : decode b_PN_nextIndexed 0 = .ok (.aload_n 0, 1) := by decide +kernel
theorem d_PN_nextIndexed_1 : decode b_PN_nextIndexed 1 = .ok (.iconst (0), 1) := by decide +kernel
theorem d_PN_nextIndexed_2 : decode b_PN_nextIndexed 2 = .ok (.aload_n 1, 1) := by decide +kernel
theorem d_PN_nextIndexed_3 : decode b_PN_nextIndexed 3 = .ok (.getfield 72, 3) := by decide +kernel
theorem d_PN_nextIndexed_6 : decode b_PN_nextIndexed 6 = .ok (.iconst (1), 1) := by decide +kernel
theorem d_PN_nextIndexed_7 : decode b_PN_nextIndexed 7 = .ok (.isub, 1) := by decide +kernel
theorem d_PN_nextIndexed_8 : decode b_PN_nextIndexed 8 = .ok (.invokevirtual 49, 3) := by decide +kernel
theorem d_PN_nextIndexed_11 : decode b_PN_nextIndexed 11 = .ok (.istore_n 2, 1) := by decide +kernel
theorem d_PN_nextIndexed_12 : decode b_PN_nextIndexed 12 = .ok (.aload_n 0, 1) := by decide +kernel
theorem d_PN_nextIndexed_13 : decode b_PN_nextIndexed 13 = .ok (.getfield 22, 3) := by decide +kernel
theorem d_PN_nextIndexed_16 : decode b_PN_nextIndexed 16 = .ok (.iconst (-1), 1) := by decide +kernel
theorem d_PN_nextIndexed_17 : decode b_PN_nextIndexed 17 = .ok (.if_icmp .ne (22), 3) := by decide +kernel
theorem d_PN_nextIndexed_20 : decode b_PN_nextIndexed 20 = .ok (.aload_n 1, 1) := by decide +kernel
theorem d_PN_nextIndexed_21 : decode b_PN_nextIndexed 21 = .ok (.getfield 94, 3) := by decide +kernel
theorem d_PN_nextIndexed_24 : decode b_PN_nextIndexed 24 = .ok (.iload_n 2, 1) := by decide +kernel
theorem d_PN_nextIndexed_25 : decode b_PN_nextIndexed 25 = .ok (.baload, 1) := by decide +kernel
theorem d_PN_nextIndexed_26 : decode b_PN_nextIndexed 26 = .ok (.ifCond .ne (13), 3) := by decide +kernel
theorem d_PN_nextIndexed_29 : decode b_PN_nextIndexed 29 = .ok (.aload_n 0, 1) := by decide +kernel
theorem d_PN_nextIndexed_30 : decode b_PN_nextIndexed 30 = .ok (.aload_n 0, 1) := by decide +kernel
theorem d_PN_nextIndexed_31 : decode b_PN_nextIndexed 31 = .ok (.getfield 32, 3) := by decide +kernel
theorem d_PN_nextIndexed_34 : decode b_PN_nextIndexed 34 = .ok (.iconst (1), 1) := by decide +kernel
theorem d_PN_nextIndexed_35 : decode b_PN_nextIndexed 35 = .ok (.isub, 1) := by decide +kernel
theorem d_PN_nextIndexed_36 : decode b_PN_nextIndexed 36 = .ok (.putfield 22, 3) := by decide +kernel
theorem d_PN_nextIndexed_39 : decode b_PN_nextIndexed 39 = .ok (.return_, 1) := by decide +kernel
theorem s_PN_nextIndexed_0 {E : mm_E} {Γ : mm_G} {lev kc ks ca sa : Nat} {w : mm_W} {f : mm_F} (h : mm_ok E Γ b_PN_nextIndexed 3 "PlannedTables$Plan" lev kc ks) (hw : mm_sh w) {t1 : Nat} (ht1 : t1 < 4) {vl0 vc0 vs0 : Nat} {P0 : Option Value → mm_W → mm_F → Prop} (hl0 : vl0 < lev) (hu0 : ca + vc0 ≤ kc) (hz0 : sa + vs0 ≤ ks) (m0 : mm_C E y_PN_next b_PN_next 3 (some .int) vl0 vc0 vs0 [mm_rf E 53, .int 0, .int ((f (4 + 12 * t1) 0) - 1)] w f P0) (k1 : ∀ (r : Option Value) (w1 : mm_W) (f1 : mm_F), P0 r w1 f1 → mm_go E Γ 3 11 [(0, mm_rf E 53), (1, mm_rf E (4 + 12 * t1))] (r.toList ++ []) w1 f1 (ca + vc0) (sa + vs0)) : mm_go E Γ 3 0 [(0, mm_rf E 53), (1, mm_rf E (4 + 12 * t1))] [] w f ca sa := by
  refine mm_aload_n h d_PN_nextIndexed_0 0 rfl rfl ?_
  refine mm_iconst (v := 0) h d_PN_nextIndexed_1 (by decide) ?_
  refine mm_aload_n h d_PN_nextIndexed_2 1 rfl rfl ?_
  refine mm_geti h fl_PN_72 rfl (is_T hw ht1) d_PN_nextIndexed_3 ?_
  refine mm_iconst (v := 1) h d_PN_nextIndexed_6 (by decide) ?_
  refine mm_isub h d_PN_nextIndexed_7 ?_
  exact mm_callV (As := [.int 0, .int ((f (4 + 12 * t1) 0) - 1)]) (rest := []) h m0 cv_PN_49 cm_PN_next hl0 (q0 := _) rfl rfl (is_PL hw) hu0 hz0 rfl rfl (Nat.le_of_ble_eq_true rfl) d_PN_nextIndexed_8 (fun r w1 f1 hp => k1 r w1 f1 hp)
theorem s_PN_nextIndexed_11 {E : mm_E} {Γ : mm_G} {lev kc ks ca sa : Nat} {w : mm_W} {f : mm_F} (h : mm_ok E Γ b_PN_nextIndexed 3 "PlannedTables$Plan" lev kc ks) (hw : mm_sh w) {t1 : Nat} (ht1 : t1 < 4) {xk0 : Int32} (k0 : ¬ (f 53 2) = (-1) → mm_go E Γ 3 39 [(0, mm_rf E 53), (1, mm_rf E (4 + 12 * t1)), (2, .int xk0)] [] w f ca sa) (b1 : (f 53 2) = (-1) → vp_in xk0 4) (k2 : (f 53 2) = (-1) → ¬ (f (5 + 12 * t1) (xk0).toNatClampNeg) = 0 → mm_go E Γ 3 39 [(0, mm_rf E 53), (1, mm_rf E (4 + 12 * t1)), (2, .int xk0)] [] w f ca sa) (k3 : (f 53 2) = (-1) → (f (5 + 12 * t1) (xk0).toNatClampNeg) = 0 → mm_go E Γ 3 39 [(0, mm_rf E 53), (1, mm_rf E (4 + 12 * t1)), (2, .int xk0)] [] w (mm_up f 53 2 ((f 53 6) - 1)) ca sa) : mm_go E Γ 3 11 [(0, mm_rf E 53), (1, mm_rf E (4 + 12 * t1))] [.int xk0] w f ca sa := by
  refine mm_istore_n (lv' := [(2, .int xk0), (0, mm_rf E 53), (1, mm_rf E (4 + 12 * t1))]) h d_PN_nextIndexed_11 rfl (by decide) rfl ?_
  refine mm_aload_n h d_PN_nextIndexed_12 1 rfl rfl ?_
  refine mm_geti h fl_PN_22 rfl (is_PL hw) d_PN_nextIndexed_13 ?_
  refine mm_iconst (v := (-1)) h d_PN_nextIndexed_16 (by decide) ?_
  refine mm_icmp_ne h d_PN_nextIndexed_17 (tgt := 39) (by decide) (fun c1 => ?_) (fun c1 => ?_)
  · skip
    refine mm_sub [1, 2, 0] rfl ?_
    exact (k0 c1)
  · skip
    refine mm_aload_n h d_PN_nextIndexed_20 2 rfl rfl ?_
    refine mm_getr h fl_PN_94 rfl (is_T hw ht1) (rf_T_indexed hw ht1) (is_TI hw ht1).1.1 d_PN_nextIndexed_21 ?_
    refine mm_iload_n h d_PN_nextIndexed_24 0 rfl rfl ?_
    refine mm_zald h (is_TI hw ht1) (b1 c1) d_PN_nextIndexed_25 ?_
    refine mm_if_ne h d_PN_nextIndexed_26 (tgt := 39) (by decide) (fun c2 => ?_) (fun c2 => ?_)
    · skip
      refine mm_sub [1, 2, 0] rfl ?_
      exact (k2 c1 c2)
    · skip
      refine mm_aload_n h d_PN_nextIndexed_29 1 rfl rfl ?_
      refine mm_aload_n h d_PN_nextIndexed_30 1 rfl rfl ?_
      refine mm_geti h fl_PN_32 rfl (is_PL hw) d_PN_nextIndexed_31 ?_
      refine mm_iconst (v := 1) h d_PN_nextIndexed_34 (by decide) ?_
      refine mm_isub h d_PN_nextIndexed_35 ?_
      refine mm_puti h fl_PN_22 (Or.inl rfl) rfl rfl rfl (is_PL hw) d_PN_nextIndexed_36 ?_
      refine mm_sub [1, 2, 0] rfl ?_
      exact (k3 c1 c2)
theorem s_PN_nextIndexed_39 {E : mm_E} {Γ : mm_G} {lev kc ks ca sa : Nat} {w : mm_W} {f : mm_F} {Post : Option Value → mm_W → mm_F → Prop} (h : mm_ok E Γ b_PN_nextIndexed 3 "PlannedTables$Plan" lev kc ks) (he : mm_end E Γ none kc ks Post y_PN_nextIndexed.name) (hca : ca ≤ kc) (hsa : sa ≤ ks) (hw : mm_sh w) {t1 : Nat} (ht1 : t1 < 4) {x2 : Int32} (k0 : Post none w f) : mm_go E Γ 3 39 [(0, mm_rf E 53), (1, mm_rf E (4 + 12 * t1)), (2, .int x2)] [] w f ca sa := by
  exact mm_vret h he d_PN_nextIndexed_39 hca hsa k0
theorem d_PN_next_0 : decode b_PN_next 0 = .ok (.aload_n 0, 1) := by decide +kernel
theorem d_PN_next_1 : decode b_PN_next 1 = .ok (.getfield 22, 3) := by decide +kernel
theorem d_PN_next_4 : decode b_PN_next 4 = .ok (.iconst (-1), 1) := by decide +kernel
theorem d_PN_next_5 : decode b_PN_next 5 = .ok (.if_icmp .eq (5), 3) := by decide +kernel
theorem d_PN_next_8 : decode b_PN_next 8 = .ok (.iconst (-1), 1) := by decide +kernel
theorem d_PN_next_9 : decode b_PN_next 9 = .ok (.ireturn, 1) := by decide +kernel
theorem d_PN_next_10 : decode b_PN_next 10 = .ok (.aload_n 0, 1) := by decide +kernel
theorem d_PN_next_11 : decode b_PN_next 11 = .ok (.getfield 32, 3) := by decide +kernel
theorem d_PN_next_14 : decode b_PN_next 14 = .ok (.aload_n 0, 1) := by decide +kernel
theorem d_PN_next_15 : decode b_PN_next 15 = .ok (.getfield 39, 3) := by decide +kernel
theorem d_PN_next_18 : decode b_PN_next 18 = .ok (.if_icmp .ge (29), 3) := by decide +kernel
theorem d_PN_next_21 : decode b_PN_next 21 = .ok (.aload_n 0, 1) := by decide +kernel
theorem d_PN_next_22 : decode b_PN_next 22 = .ok (.getfield 9, 3) := by decide +kernel
theorem d_PN_next_25 : decode b_PN_next 25 = .ok (.aload_n 0, 1) := by decide +kernel
theorem d_PN_next_26 : decode b_PN_next 26 = .ok (.getfield 32, 3) := by decide +kernel
theorem d_PN_next_29 : decode b_PN_next 29 = .ok (.iaload, 1) := by decide +kernel
theorem d_PN_next_30 : decode b_PN_next 30 = .ok (.iload_n 1, 1) := by decide +kernel
theorem d_PN_next_31 : decode b_PN_next 31 = .ok (.if_icmp .lt (16), 3) := by decide +kernel
theorem d_PN_next_34 : decode b_PN_next 34 = .ok (.aload_n 0, 1) := by decide +kernel
theorem d_PN_next_35 : decode b_PN_next 35 = .ok (.getfield 9, 3) := by decide +kernel
theorem d_PN_next_38 : decode b_PN_next 38 = .ok (.aload_n 0, 1) := by decide +kernel
theorem d_PN_next_39 : decode b_PN_next 39 = .ok (.getfield 32, 3) := by decide +kernel
theorem d_PN_next_42 : decode b_PN_next 42 = .ok (.iaload, 1) := by decide +kernel
theorem d_PN_next_43 : decode b_PN_next 43 = .ok (.iload_n 2, 1) := by decide +kernel
theorem d_PN_next_44 : decode b_PN_next 44 = .ok (.if_icmp .le (13), 3) := by decide +kernel
theorem d_PN_next_47 : decode b_PN_next 47 = .ok (.aload_n 0, 1) := by decide +kernel
theorem d_PN_next_48 : decode b_PN_next 48 = .ok (.aload_n 0, 1) := by decide +kernel
theorem d_PN_next_49 : decode b_PN_next 49 = .ok (.getfield 32, 3) := by decide +kernel
theorem d_PN_next_52 : decode b_PN_next 52 = .ok (.putfield 22, 3) := by decide +kernel
theorem d_PN_next_55 : decode b_PN_next 55 = .ok (.iconst (-1), 1) := by decide +kernel
theorem d_PN_next_56 : decode b_PN_next 56 = .ok (.ireturn, 1) := by decide +kernel
theorem d_PN_next_57 : decode b_PN_next 57 = .ok (.aload_n 0, 1) := by decide +kernel
theorem d_PN_next_58 : decode b_PN_next 58 = .ok (.dup, 1) := by decide +kernel
theorem d_PN_next_59 : decode b_PN_next 59 = .ok (.getfield 32, 3) := by decide +kernel
theorem d_PN_next_62 : decode b_PN_next 62 = .ok (.iconst (1), 1) := by decide +kernel
theorem d_PN_next_63 : decode b_PN_next 63 = .ok (.iadd, 1) := by decide +kernel
theorem d_PN_next_64 : decode b_PN_next 64 = .ok (.putfield 32, 3) := by decide +kernel
theorem d_PN_next_67 : decode b_PN_next 67 = .ok (.aload_n 0, 1) := by decide +kernel
theorem d_PN_next_68 : decode b_PN_next 68 = .ok (.getfield 9, 3) := by decide +kernel
theorem d_PN_next_71 : decode b_PN_next 71 = .ok (.aload_n 0, 1) := by decide +kernel
theorem d_PN_next_72 : decode b_PN_next 72 = .ok (.getfield 32, 3) := by decide +kernel
theorem d_PN_next_75 : decode b_PN_next 75 = .ok (.iconst (1), 1) := by decide +kernel
theorem d_PN_next_76 : decode b_PN_next 76 = .ok (.isub, 1) := by decide +kernel
theorem d_PN_next_77 : decode b_PN_next 77 = .ok (.iaload, 1) := by decide +kernel
theorem d_PN_next_78 : decode b_PN_next 78 = .ok (.ireturn, 1) := by decide +kernel
theorem s_PN_next_0 {E : mm_E} {Γ : mm_G} {lev kc ks ca sa : Nat} {w : mm_W} {f : mm_F} {Post : Option Value → mm_W → mm_F → Prop} (h : mm_ok E Γ b_PN_next 3 "PlannedTables$Plan" lev kc ks) (he : mm_end E Γ (some .int) kc ks Post y_PN_next.name) (hca : ca ≤ kc) (hsa : sa ≤ ks) (hw : mm_sh w) {x1 : Int32} {x2 : Int32} (k0 : (f 53 2) = (-1) → (f 53 1) ≤ (f 53 6) → mm_go E Γ 3 47 [(0, mm_rf E 53), (1, .int x1), (2, .int x2)] [] w f ca sa) (b1 : (f 53 2) = (-1) → ¬ (f 53 1) ≤ (f 53 6) → vp_in (f 53 6) 40) (k2 : (f 53 2) = (-1) → ¬ (f 53 1) ≤ (f 53 6) → (f 54 ((f 53 6)).toNatClampNeg) < x1 → mm_go E Γ 3 47 [(0, mm_rf E 53), (1, .int x1), (2, .int x2)] [] w f ca sa) (b3 : (f 53 2) = (-1) → ¬ (f 53 1) ≤ (f 53 6) → ¬ (f 54 ((f 53 6)).toNatClampNeg) < x1 → (f 54 ((f 53 6)).toNatClampNeg) ≤ x2 → vp_in (((mm_up f 53 6 ((f 53 6) + 1)) 53 6) - 1) 40) (k4 : (f 53 2) = (-1) → ¬ (f 53 1) ≤ (f 53 6) → ¬ (f 54 ((f 53 6)).toNatClampNeg) < x1 → (f 54 ((f 53 6)).toNatClampNeg) ≤ x2 → Post (some (.int ((mm_up f 53 6 ((f 53 6) + 1)) 54 ((((mm_up f 53 6 ((f 53 6) + 1)) 53 6) - 1)).toNatClampNeg))) w (mm_up f 53 6 ((f 53 6) + 1))) (k5 : (f 53 2) = (-1) → ¬ (f 53 1) ≤ (f 53 6) → ¬ (f 54 ((f 53 6)).toNatClampNeg) < x1 → ¬ (f 54 ((f 53 6)).toNatClampNeg) ≤ x2 → mm_go E Γ 3 47 [(0, mm_rf E 53), (1, .int x1), (2, .int x2)] [] w f ca sa) (k6 : ¬ (f 53 2) = (-1) → Post (some (.int (-1))) w f) : mm_go E Γ 3 0 [(0, mm_rf E 53), (1, .int x1), (2, .int x2)] [] w f ca sa := by
  refine mm_aload_n h d_PN_next_0 0 rfl rfl ?_
  refine mm_geti h fl_PN_22 rfl (is_PL hw) d_PN_next_1 ?_
  refine mm_iconst (v := (-1)) h d_PN_next_4 (by decide) ?_
  refine mm_icmp_eq h d_PN_next_5 (tgt := 10) (by decide) (fun c1 => ?_) (fun c1 => ?_)
  · skip
    refine mm_aload_n h d_PN_next_10 0 rfl rfl ?_
    refine mm_geti h fl_PN_32 rfl (is_PL hw) d_PN_next_11 ?_
    refine mm_aload_n h d_PN_next_14 0 rfl rfl ?_
    refine mm_geti h fl_PN_39 rfl (is_PL hw) d_PN_next_15 ?_
    refine mm_icmp_ge h d_PN_next_18 (tgt := 47) (by decide) (fun c2 => ?_) (fun c2 => ?_)
    · skip
      exact (k0 c1 c2)
    · skip
      refine mm_aload_n h d_PN_next_21 0 rfl rfl ?_
      refine mm_getr h fl_PN_9 rfl (is_PL hw) (rf_PL_words hw) (is_WD hw).1.1 d_PN_next_22 ?_
      refine mm_aload_n h d_PN_next_25 0 rfl rfl ?_
      refine mm_geti h fl_PN_32 rfl (is_PL hw) d_PN_next_26 ?_
      refine mm_iald h (is_WD hw) (b1 c1 c2) d_PN_next_29 ?_
      refine mm_iload_n h d_PN_next_30 1 rfl rfl ?_
      refine mm_icmp_lt h d_PN_next_31 (tgt := 47) (by decide) (fun c3 => ?_) (fun c3 => ?_)
      · skip
        exact (k2 c1 c2 c3)
      · skip
        refine mm_aload_n h d_PN_next_34 0 rfl rfl ?_
        refine mm_getr h fl_PN_9 rfl (is_PL hw) (rf_PL_words hw) (is_WD hw).1.1 d_PN_next_35 ?_
        refine mm_aload_n h d_PN_next_38 0 rfl rfl ?_
        refine mm_geti h fl_PN_32 rfl (is_PL hw) d_PN_next_39 ?_
        refine mm_iald h (is_WD hw) (b1 c1 c2) d_PN_next_42 ?_
        refine mm_iload_n h d_PN_next_43 2 rfl rfl ?_
        refine mm_icmp_le h d_PN_next_44 (tgt := 57) (by decide) (fun c4 => ?_) (fun c4 => ?_)
        · skip
          refine mm_aload_n h d_PN_next_57 0 rfl rfl ?_
          refine mm_dup h d_PN_next_58 rfl ?_
          refine mm_geti h fl_PN_32 rfl (is_PL hw) d_PN_next_59 ?_
          refine mm_iconst (v := 1) h d_PN_next_62 (by decide) ?_
          refine mm_iadd h d_PN_next_63 ?_
          refine mm_puti h fl_PN_32 (Or.inl rfl) rfl rfl rfl (is_PL hw) d_PN_next_64 ?_
          refine mm_aload_n h d_PN_next_67 0 rfl rfl ?_
          refine mm_getr h fl_PN_9 rfl (is_PL hw) (rf_PL_words hw) (is_WD hw).1.1 d_PN_next_68 ?_
          refine mm_aload_n h d_PN_next_71 0 rfl rfl ?_
          refine mm_geti h fl_PN_32 rfl (is_PL hw) d_PN_next_72 ?_
          refine mm_iconst (v := 1) h d_PN_next_75 (by decide) ?_
          refine mm_isub h d_PN_next_76 ?_
          refine mm_iald h (is_WD hw) (b3 c1 c2 c3 c4) d_PN_next_77 ?_
          exact mm_iret h he rfl d_PN_next_78 hca hsa (k4 c1 c2 c3 c4)
        · skip
          exact (k5 c1 c2 c3 c4)
  · skip
    refine mm_iconst (v := (-1)) h d_PN_next_8 (by decide) ?_
    exact mm_iret h he rfl d_PN_next_9 hca hsa (k6 c1)
theorem s_PN_next_47 {E : mm_E} {Γ : mm_G} {lev kc ks ca sa : Nat} {w : mm_W} {f : mm_F} {Post : Option Value → mm_W → mm_F → Prop} (h : mm_ok E Γ b_PN_next 3 "PlannedTables$Plan" lev kc ks) (he : mm_end E Γ (some .int) kc ks Post y_PN_next.name) (hca : ca ≤ kc) (hsa : sa ≤ ks) (hw : mm_sh w) {x1 : Int32} {x2 : Int32} (k0 : Post (some (.int (-1))) w (mm_up f 53 2 (f 53 6))) : mm_go E Γ 3 47 [(0, mm_rf E 53), (1, .int x1), (2, .int x2)] [] w f ca sa := by
  refine mm_aload_n h d_PN_next_47 0 rfl rfl ?_
  refine mm_aload_n h d_PN_next_48 0 rfl rfl ?_
  refine mm_geti h fl_PN_32 rfl (is_PL hw) d_PN_next_49 ?_
  refine mm_puti h fl_PN_22 (Or.inl rfl) rfl rfl rfl (is_PL hw) d_PN_next_52 ?_
  refine mm_iconst (v := (-1)) h d_PN_next_55 (by decide) ?_
  exact mm_iret h he rfl d_PN_next_56 hca hsa k0
