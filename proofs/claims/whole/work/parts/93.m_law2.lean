/-! The law: its sixteen cases. -/
section LC
variable {E : mm_E} {Γ : mm_G} {w : mm_W} {f : mm_F} {ca sa b L i lev1 lev2 : Nat} {xs : Nat → Int32} {P : Option Value → mm_W → mm_F → Prop}
theorem lk_thrown : nm_cm y_MD_thrown b_MD_thrown 1 (some .int) 0 := ⟨nw_7, nw_727, by decide, by decide, by decide +kernel, by decide⟩
theorem lk_table : nm_cm y_MD_table b_MD_table 2 (some .int) 1 := ⟨nw_7, nw_731, by decide, by decide, by decide +kernel, by decide⟩
theorem lw_table (h : mm_ok E Γ code 7 "PlannedTablesLaw" 8 601024 7293034) (hs : mm_Sc E Γ b L xs) (hL : L ≤ 2048) (hi : i + 4 ≤ L) (hca : ca + 3 ≤ 601024) (hsa : sa + 20 ≤ 7293034) (hX : mm_oX E Γ) (hw : mm_sh w) (hW : mm_CW E y_LW_table b_LW_table 4 (some .int) [(0, 9, 12, 13), (0, 9, 15, 15)] 7 3 20 [mm_rf E 1, .int (xs (i + 1)), mm_rf E 152] w f P) (hB : lw_B E y_MD_table b_MD_table 2 .int lev2 [.int (xs (i + 1))] Int32.toInt64 P) (hlev : lev2 ≤ 7)
    (next : ∀ (w' : mm_W) (f' : mm_F), mm_sh w' → IV f' → mm_go E Γ 7 752 (lw_lv E b i) [] w' f' (ca + 3) (sa + 20)) : mm_go E Γ 7 116 (lw_lv E b i) [] w f ca sa := by
  refine mm_aload_n h d_LW_law_116 3 rfl rfl ?_
  refine lw_rd 1 4 0 h hs hL (by omega) rfl rfl d_LW_law_117 d_LW_law_118 d_LW_law_120 d_LW_law_121 d_LW_law_122 rfl ?_
  refine mm_aload_n h d_LW_law_123 1 rfl rfl ?_
  refine mm_callW (As := [mm_rf E 1, .int (xs (i + 1)), mm_rf E 152]) (rest := []) h hX hW nw_274 nw_275 cw_table (by omega) hca hsa rfl rfl (Nat.le_of_ble_eq_true rfl) d_LW_law_124 fun r w1 f1 hp => ?_
  obtain ⟨k, v2, f2, rfl, hw1, hM, hk, hv, hI⟩ := hB _ _ _ hp
  refine mm_istore (lv' := (5, .int k) :: lw_lv E b i) h d_LW_law_127 (by decide) rfl ?_
  refine mm_aload_n h d_LW_law_129 3 rfl rfl ?_
  refine lw_rd 1 5 1 h hs hL (by omega) rfl rfl d_LW_law_130 d_LW_law_131 d_LW_law_133 d_LW_law_134 d_LW_law_135 rfl ?_
  refine mm_callV (k := 7) (a := 136) (q0 := _) (As := [.int (xs (i + 1))]) (rest := []) h hM ⟨nw_728, nw_729, nw_730⟩ lk_table (by omega) rfl rfl (is_MO hw1) (by omega) (by omega) rfl rfl (Nat.le_of_ble_eq_true rfl) d_LW_law_136 ?_
  rintro _ _ _ ⟨rfl, rfl, rfl⟩
  refine mm_istore (lv' := (6, .int v2) :: (5, .int k) :: lw_lv E b i) h d_LW_law_139 (by decide) rfl ?_
  refine mm_aload_n h d_LW_law_141 4 rfl rfl ?_
  refine mm_callV (k := 7) (a := 136) (q0 := _) (As := []) (rest := []) h (c_MD_thrown hw1) ⟨nw_724, nw_725, nw_726⟩ lk_thrown (by omega) rfl rfl (is_MO hw1) (by omega) (by omega) rfl rfl (Nat.le_of_ble_eq_true rfl) d_LW_law_142 ?_
  rintro _ _ _ ⟨rfl, rfl, rfl⟩
  rw [hk]
  refine mm_iload h d_LW_law_145 1 rfl ?_
  refine mm_icmp_eq (tgt := 152) h d_LW_law_147 rfl (fun _ => ?_) (fun q => absurd rfl q)
  refine mm_iload h d_LW_law_152 1 rfl ?_
  have fin : mm_go E Γ 7 169 ((6, .int v2) :: (5, .int k) :: lw_lv E b i) [] w1 f2 (ca + 3 + 0 + 0) (sa + 20 + 0 + 0) := mm_goto (tgt := 752) h d_LW_law_169 rfl (mm_sub [2, 3, 4, 5, 6] rfl (next w1 f2 hw1 hI))
  refine mm_if_ne (tgt := 169) h d_LW_law_154 rfl (fun _ => fin) (fun hk0 => ?_)
  refine mm_aload_n h d_LW_law_157 3 rfl rfl ?_
  refine mm_iconst h d_LW_law_158 rfl ?_
  refine mm_lald (n := 1) h (is_OT hw1) (by unfold vp_in; decide) d_LW_law_159 ?_
  have hv1 : mm_j w1 152 ((Int32.ofInt 0).toNatClampNeg) = v2.toInt64 := hv hk0
  rw [hv1]
  refine mm_iload h d_LW_law_160 0 rfl ?_
  refine mm_i2l h d_LW_law_162 rfl ?_
  refine mm_lcmp h d_LW_law_163 ?_
  rw [lg_cmp_self]
  exact mm_if_eq (tgt := 169) h d_LW_law_164 rfl (fun _ => fin) (fun z => absurd rfl z)
theorem lk_index : nm_cm y_MD_index b_MD_index 3 (some .boolean) 2 := ⟨nw_7, nw_735, by decide, by decide, by decide +kernel, by decide⟩
theorem lw_index (h : mm_ok E Γ code 7 "PlannedTablesLaw" 8 601024 7293034) (hs : mm_Sc E Γ b L xs) (hL : L ≤ 2048) (hi : i + 4 ≤ L) (hca : ca + 3 ≤ 601024) (hsa : sa + 20 ≤ 7293034) (hX : mm_oX E Γ) (hw : mm_sh w) (hW : mm_CW E y_LW_index b_LW_index 5 (some .int) [(0, 17, 20, 21)] 7 3 20 [mm_rf E 1, .int (xs (i + 1)), .int (xs (i + 2)), mm_rf E 152] w f P) (hB : lw_B E y_MD_index b_MD_index 3 .boolean lev2 [.int (xs (i + 1)), .int (xs (i + 2))] (fun v => if v = 0 then 0 else 1) P) (hlev : lev2 ≤ 7)
    (next : ∀ (w' : mm_W) (f' : mm_F), mm_sh w' → IV f' → mm_go E Γ 7 752 (lw_lv E b i) [] w' f' (ca + 3) (sa + 20)) : mm_go E Γ 7 172 (lw_lv E b i) [] w f ca sa := by
  refine mm_aload_n h d_LW_law_172 3 rfl rfl ?_
  refine lw_rd 1 4 0 h hs hL (by omega) rfl rfl d_LW_law_173 d_LW_law_174 d_LW_law_176 d_LW_law_177 d_LW_law_178 rfl ?_
  refine lw_rd 2 4 0 h hs hL (by omega) rfl rfl d_LW_law_179 d_LW_law_180 d_LW_law_182 d_LW_law_183 d_LW_law_184 rfl ?_
  refine mm_aload_n h d_LW_law_185 1 rfl rfl ?_
  refine mm_callW (As := [mm_rf E 1, .int (xs (i + 1)), .int (xs (i + 2)), mm_rf E 152]) (rest := []) h hX hW nw_373 nw_374 cw_index (by omega) hca hsa rfl rfl (Nat.le_of_ble_eq_true rfl) d_LW_law_186 fun r w1 f1 hp => ?_
  obtain ⟨k, v2, f2, rfl, hw1, hM, hk, hv, hI⟩ := hB _ _ _ hp
  refine mm_istore (lv' := (5, .int k) :: lw_lv E b i) h d_LW_law_189 (by decide) rfl ?_
  refine mm_aload_n h d_LW_law_191 3 rfl rfl ?_
  refine lw_rd 1 5 1 h hs hL (by omega) rfl rfl d_LW_law_192 d_LW_law_193 d_LW_law_195 d_LW_law_196 d_LW_law_197 rfl ?_
  refine lw_rd 2 5 1 h hs hL (by omega) rfl rfl d_LW_law_198 d_LW_law_199 d_LW_law_201 d_LW_law_202 d_LW_law_203 rfl ?_
  refine mm_callV (k := 7) (a := 136) (q0 := _) (As := [.int (xs (i + 1)), .int (xs (i + 2))]) (rest := []) h hM ⟨nw_732, nw_733, nw_734⟩ lk_index (by omega) rfl rfl (is_MO hw1) (by omega) (by omega) rfl rfl (Nat.le_of_ble_eq_true rfl) d_LW_law_204 ?_
  rintro _ _ _ ⟨rfl, rfl, rfl⟩
  refine mm_istore (lv' := (6, .int v2) :: (5, .int k) :: lw_lv E b i) h d_LW_law_207 (by decide) rfl ?_
  refine mm_aload_n h d_LW_law_209 4 rfl rfl ?_
  refine mm_callV (k := 7) (a := 136) (q0 := _) (As := []) (rest := []) h (c_MD_thrown hw1) ⟨nw_724, nw_725, nw_726⟩ lk_thrown (by omega) rfl rfl (is_MO hw1) (by omega) (by omega) rfl rfl (Nat.le_of_ble_eq_true rfl) d_LW_law_210 ?_
  rintro _ _ _ ⟨rfl, rfl, rfl⟩
  rw [hk]
  refine mm_iload h d_LW_law_213 1 rfl ?_
  refine mm_icmp_eq (tgt := 220) h d_LW_law_215 rfl (fun _ => ?_) (fun q => absurd rfl q)
  refine mm_iload h d_LW_law_220 1 rfl ?_
  have fin : mm_go E Γ 7 244 ((6, .int v2) :: (5, .int k) :: lw_lv E b i) [] w1 f2 (ca + 3 + 0 + 0) (sa + 20 + 0 + 0) := mm_goto (tgt := 752) h d_LW_law_244 rfl (mm_sub [2, 3, 4, 5, 6] rfl (next w1 f2 hw1 hI))
  refine mm_if_ne (tgt := 244) h d_LW_law_222 rfl (fun _ => fin) (fun hk0 => ?_)
  refine mm_aload_n h d_LW_law_225 3 rfl rfl ?_
  refine mm_iconst h d_LW_law_226 rfl ?_
  refine mm_lald (n := 1) h (is_OT hw1) (by unfold vp_in; decide) d_LW_law_227 ?_
  have hv1 : mm_j w1 152 ((Int32.ofInt 0).toNatClampNeg) = (if v2 = 0 then 0 else 1) := hv hk0
  rw [hv1]
  refine mm_iload h d_LW_law_228 0 rfl ?_
  refine mm_if_eq (tgt := 237) h d_LW_law_230 rfl (fun q => ?_) (fun q => ?_)
  · rw [if_pos q]
    refine mm_lconst h d_LW_law_237 rfl ?_
    refine mm_lcmp h d_LW_law_238 ?_
    rw [show lg_cmp 0 (Int64.ofNat ((0 : Fin 2) : Nat)) = 0 from lg_cmp_self 0]
    exact mm_if_eq (tgt := 244) h d_LW_law_239 rfl (fun _ => fin) (fun z => absurd rfl z)
  · rw [if_neg q]
    refine mm_lconst h d_LW_law_233 rfl ?_
    refine mm_goto (tgt := 238) h d_LW_law_234 rfl ?_
    refine mm_lcmp h d_LW_law_238 ?_
    rw [show lg_cmp 1 (Int64.ofNat ((1 : Fin 2) : Nat)) = 0 from lg_cmp_self 1]
    exact mm_if_eq (tgt := 244) h d_LW_law_239 rfl (fun _ => fin) (fun z => absurd rfl z)
theorem lk_insert : nm_cm y_MD_insert b_MD_insert 3 (some .int) 1 := ⟨nw_7, nw_751, by decide, by decide, by decide +kernel, by decide⟩
theorem lw_insert (h : mm_ok E Γ code 7 "PlannedTablesLaw" 8 601024 7293034) (hs : mm_Sc E Γ b L xs) (hL : L ≤ 2048) (hi : i + 4 ≤ L) (hca : ca + 3 ≤ 601024) (hsa : sa + 20 ≤ 7293034) (hX : mm_oX E Γ) (hw : mm_sh w) (hW : mm_CW E y_LW_insert b_LW_insert 4 (some .int) [(0, 9, 12, 21), (0, 9, 15, 26), (0, 9, 18, 15)] 7 3 20 [mm_rf E 1, .int (xs (i + 1)), mm_rf E 152] w f P) (hB : lw_B E y_MD_insert b_MD_insert 3 .int lev2 [.int (xs (i + 1))] Int32.toInt64 P) (hlev : lev2 ≤ 7)
    (next : ∀ (w' : mm_W) (f' : mm_F), mm_sh w' → IV f' → mm_go E Γ 7 752 (lw_lv E b i) [] w' f' (ca + 3) (sa + 20)) : mm_go E Γ 7 284 (lw_lv E b i) [] w f ca sa := by
  refine mm_aload_n h d_LW_law_284 3 rfl rfl ?_
  refine lw_rd 1 4 0 h hs hL (by omega) rfl rfl d_LW_law_285 d_LW_law_286 d_LW_law_288 d_LW_law_289 d_LW_law_290 rfl ?_
  refine mm_aload_n h d_LW_law_291 1 rfl rfl ?_
  refine mm_callW (As := [mm_rf E 1, .int (xs (i + 1)), mm_rf E 152]) (rest := []) h hX hW nw_401 nw_402 cw_insert (by omega) hca hsa rfl rfl (Nat.le_of_ble_eq_true rfl) d_LW_law_292 fun r w1 f1 hp => ?_
  obtain ⟨k, v2, f2, rfl, hw1, hM, hk, hv, hI⟩ := hB _ _ _ hp
  refine mm_istore (lv' := (5, .int k) :: lw_lv E b i) h d_LW_law_295 (by decide) rfl ?_
  refine mm_aload_n h d_LW_law_297 3 rfl rfl ?_
  refine lw_rd 1 5 1 h hs hL (by omega) rfl rfl d_LW_law_298 d_LW_law_299 d_LW_law_301 d_LW_law_302 d_LW_law_303 rfl ?_
  refine mm_callV (k := 7) (a := 136) (q0 := _) (As := [.int (xs (i + 1))]) (rest := []) h hM ⟨nw_748, nw_749, nw_750⟩ lk_insert (by omega) rfl rfl (is_MO hw1) (by omega) (by omega) rfl rfl (Nat.le_of_ble_eq_true rfl) d_LW_law_304 ?_
  rintro _ _ _ ⟨rfl, rfl, rfl⟩
  refine mm_istore (lv' := (6, .int v2) :: (5, .int k) :: lw_lv E b i) h d_LW_law_307 (by decide) rfl ?_
  refine mm_aload_n h d_LW_law_309 4 rfl rfl ?_
  refine mm_callV (k := 7) (a := 136) (q0 := _) (As := []) (rest := []) h (c_MD_thrown hw1) ⟨nw_724, nw_725, nw_726⟩ lk_thrown (by omega) rfl rfl (is_MO hw1) (by omega) (by omega) rfl rfl (Nat.le_of_ble_eq_true rfl) d_LW_law_310 ?_
  rintro _ _ _ ⟨rfl, rfl, rfl⟩
  rw [hk]
  refine mm_iload h d_LW_law_313 1 rfl ?_
  refine mm_icmp_eq (tgt := 320) h d_LW_law_315 rfl (fun _ => ?_) (fun q => absurd rfl q)
  refine mm_iload h d_LW_law_320 1 rfl ?_
  have fin : mm_go E Γ 7 337 ((6, .int v2) :: (5, .int k) :: lw_lv E b i) [] w1 f2 (ca + 3 + 0 + 0) (sa + 20 + 0 + 0) := mm_goto (tgt := 752) h d_LW_law_337 rfl (mm_sub [2, 3, 4, 5, 6] rfl (next w1 f2 hw1 hI))
  refine mm_if_ne (tgt := 337) h d_LW_law_322 rfl (fun _ => fin) (fun hk0 => ?_)
  refine mm_aload_n h d_LW_law_325 3 rfl rfl ?_
  refine mm_iconst h d_LW_law_326 rfl ?_
  refine mm_lald (n := 1) h (is_OT hw1) (by unfold vp_in; decide) d_LW_law_327 ?_
  have hv1 : mm_j w1 152 ((Int32.ofInt 0).toNatClampNeg) = v2.toInt64 := hv hk0
  rw [hv1]
  refine mm_iload h d_LW_law_328 0 rfl ?_
  refine mm_i2l h d_LW_law_330 rfl ?_
  refine mm_lcmp h d_LW_law_331 ?_
  rw [lg_cmp_self]
  exact mm_if_eq (tgt := 337) h d_LW_law_332 rfl (fun _ => fin) (fun z => absurd rfl z)
theorem lk_delete : nm_cm y_MD_delete b_MD_delete 5 (some .int) 2 := ⟨nw_7, nw_763, by decide, by decide, by decide +kernel, by decide⟩
theorem lw_delete (h : mm_ok E Γ code 7 "PlannedTablesLaw" 8 601024 7293034) (hs : mm_Sc E Γ b L xs) (hL : L ≤ 2048) (hi : i + 4 ≤ L) (hca : ca + 3 ≤ 601024) (hsa : sa + 20 ≤ 7293034) (hX : mm_oX E Γ) (hw : mm_sh w) (hW : mm_CW E y_LW_delete b_LW_delete 5 (some .int) [(0, 10, 13, 21), (0, 10, 17, 32)] 7 3 20 [mm_rf E 1, .int (xs (i + 1)), .int (xs (i + 2)), mm_rf E 152] w f P) (hB : lw_B E y_MD_delete b_MD_delete 5 .int lev2 [.int (xs (i + 1)), .int (xs (i + 2))] Int32.toInt64 P) (hlev : lev2 ≤ 7)
    (next : ∀ (w' : mm_W) (f' : mm_F), mm_sh w' → IV f' → mm_go E Γ 7 752 (lw_lv E b i) [] w' f' (ca + 3) (sa + 20)) : mm_go E Γ 7 340 (lw_lv E b i) [] w f ca sa := by
  refine mm_aload_n h d_LW_law_340 3 rfl rfl ?_
  refine lw_rd 1 4 0 h hs hL (by omega) rfl rfl d_LW_law_341 d_LW_law_342 d_LW_law_344 d_LW_law_345 d_LW_law_346 rfl ?_
  refine lw_rd 2 4 0 h hs hL (by omega) rfl rfl d_LW_law_347 d_LW_law_348 d_LW_law_350 d_LW_law_351 d_LW_law_352 rfl ?_
  refine mm_aload_n h d_LW_law_353 1 rfl rfl ?_
  refine mm_callW (As := [mm_rf E 1, .int (xs (i + 1)), .int (xs (i + 2)), mm_rf E 152]) (rest := []) h hX hW nw_455 nw_456 cw_delete (by omega) hca hsa rfl rfl (Nat.le_of_ble_eq_true rfl) d_LW_law_354 fun r w1 f1 hp => ?_
  obtain ⟨k, v2, f2, rfl, hw1, hM, hk, hv, hI⟩ := hB _ _ _ hp
  refine mm_istore (lv' := (5, .int k) :: lw_lv E b i) h d_LW_law_357 (by decide) rfl ?_
  refine mm_aload_n h d_LW_law_359 3 rfl rfl ?_
  refine lw_rd 1 5 1 h hs hL (by omega) rfl rfl d_LW_law_360 d_LW_law_361 d_LW_law_363 d_LW_law_364 d_LW_law_365 rfl ?_
  refine lw_rd 2 5 1 h hs hL (by omega) rfl rfl d_LW_law_366 d_LW_law_367 d_LW_law_369 d_LW_law_370 d_LW_law_371 rfl ?_
  refine mm_callV (k := 7) (a := 136) (q0 := _) (As := [.int (xs (i + 1)), .int (xs (i + 2))]) (rest := []) h hM ⟨nw_760, nw_761, nw_762⟩ lk_delete (by omega) rfl rfl (is_MO hw1) (by omega) (by omega) rfl rfl (Nat.le_of_ble_eq_true rfl) d_LW_law_372 ?_
  rintro _ _ _ ⟨rfl, rfl, rfl⟩
  refine mm_istore (lv' := (6, .int v2) :: (5, .int k) :: lw_lv E b i) h d_LW_law_375 (by decide) rfl ?_
  refine mm_aload_n h d_LW_law_377 4 rfl rfl ?_
  refine mm_callV (k := 7) (a := 136) (q0 := _) (As := []) (rest := []) h (c_MD_thrown hw1) ⟨nw_724, nw_725, nw_726⟩ lk_thrown (by omega) rfl rfl (is_MO hw1) (by omega) (by omega) rfl rfl (Nat.le_of_ble_eq_true rfl) d_LW_law_378 ?_
  rintro _ _ _ ⟨rfl, rfl, rfl⟩
  rw [hk]
  refine mm_iload h d_LW_law_381 1 rfl ?_
  refine mm_icmp_eq (tgt := 388) h d_LW_law_383 rfl (fun _ => ?_) (fun q => absurd rfl q)
  refine mm_iload h d_LW_law_388 1 rfl ?_
  have fin : mm_go E Γ 7 405 ((6, .int v2) :: (5, .int k) :: lw_lv E b i) [] w1 f2 (ca + 3 + 0 + 0) (sa + 20 + 0 + 0) := mm_goto (tgt := 752) h d_LW_law_405 rfl (mm_sub [2, 3, 4, 5, 6] rfl (next w1 f2 hw1 hI))
  refine mm_if_ne (tgt := 405) h d_LW_law_390 rfl (fun _ => fin) (fun hk0 => ?_)
  refine mm_aload_n h d_LW_law_393 3 rfl rfl ?_
  refine mm_iconst h d_LW_law_394 rfl ?_
  refine mm_lald (n := 1) h (is_OT hw1) (by unfold vp_in; decide) d_LW_law_395 ?_
  have hv1 : mm_j w1 152 ((Int32.ofInt 0).toNatClampNeg) = v2.toInt64 := hv hk0
  rw [hv1]
  refine mm_iload h d_LW_law_396 0 rfl ?_
  refine mm_i2l h d_LW_law_398 rfl ?_
  refine mm_lcmp h d_LW_law_399 ?_
  rw [lg_cmp_self]
  exact mm_if_eq (tgt := 405) h d_LW_law_400 rfl (fun _ => fin) (fun z => absurd rfl z)
theorem lk_cell : nm_cm y_MD_cell b_MD_cell 4 (some .int) 3 := ⟨nw_7, nw_767, by decide, by decide, by decide +kernel, by decide⟩
theorem lw_cell (h : mm_ok E Γ code 7 "PlannedTablesLaw" 8 601024 7293034) (hs : mm_Sc E Γ b L xs) (hL : L ≤ 2048) (hi : i + 4 ≤ L) (hca : ca + 3 ≤ 601024) (hsa : sa + 20 ≤ 7293034) (hX : mm_oX E Γ) (hw : mm_sh w) (hW : mm_CW E y_LW_cell b_LW_cell 6 (some .int) [(0, 12, 15, 21), (0, 12, 19, 32)] 7 3 20 [mm_rf E 1, .int (xs (i + 1)), .int (xs (i + 2)), .int (xs (i + 3)), mm_rf E 152] w f P) (hB : lw_B E y_MD_cell b_MD_cell 4 .int lev2 [.int (xs (i + 1)), .int (xs (i + 2)), .int (xs (i + 3))] Int32.toInt64 P) (hlev : lev2 ≤ 7)
    (next : ∀ (w' : mm_W) (f' : mm_F), mm_sh w' → IV f' → mm_go E Γ 7 752 (lw_lv E b i) [] w' f' (ca + 3) (sa + 20)) : mm_go E Γ 7 408 (lw_lv E b i) [] w f ca sa := by
  refine mm_aload_n h d_LW_law_408 3 rfl rfl ?_
  refine lw_rd 1 4 0 h hs hL (by omega) rfl rfl d_LW_law_409 d_LW_law_410 d_LW_law_412 d_LW_law_413 d_LW_law_414 rfl ?_
  refine lw_rd 2 4 0 h hs hL (by omega) rfl rfl d_LW_law_415 d_LW_law_416 d_LW_law_418 d_LW_law_419 d_LW_law_420 rfl ?_
  refine lw_rd 3 4 0 h hs hL (by omega) rfl rfl d_LW_law_421 d_LW_law_422 d_LW_law_424 d_LW_law_425 d_LW_law_426 rfl ?_
  refine mm_aload_n h d_LW_law_427 1 rfl rfl ?_
  refine mm_callW (As := [mm_rf E 1, .int (xs (i + 1)), .int (xs (i + 2)), .int (xs (i + 3)), mm_rf E 152]) (rest := []) h hX hW nw_487 nw_488 cw_cell (by omega) hca hsa rfl rfl (Nat.le_of_ble_eq_true rfl) d_LW_law_428 fun r w1 f1 hp => ?_
  obtain ⟨k, v2, f2, rfl, hw1, hM, hk, hv, hI⟩ := hB _ _ _ hp
  refine mm_istore (lv' := (5, .int k) :: lw_lv E b i) h d_LW_law_431 (by decide) rfl ?_
  refine mm_aload_n h d_LW_law_433 3 rfl rfl ?_
  refine lw_rd 1 5 1 h hs hL (by omega) rfl rfl d_LW_law_434 d_LW_law_435 d_LW_law_437 d_LW_law_438 d_LW_law_439 rfl ?_
  refine lw_rd 2 5 1 h hs hL (by omega) rfl rfl d_LW_law_440 d_LW_law_441 d_LW_law_443 d_LW_law_444 d_LW_law_445 rfl ?_
  refine lw_rd 3 5 1 h hs hL (by omega) rfl rfl d_LW_law_446 d_LW_law_447 d_LW_law_449 d_LW_law_450 d_LW_law_451 rfl ?_
  refine mm_callV (k := 7) (a := 136) (q0 := _) (As := [.int (xs (i + 1)), .int (xs (i + 2)), .int (xs (i + 3))]) (rest := []) h hM ⟨nw_764, nw_765, nw_766⟩ lk_cell (by omega) rfl rfl (is_MO hw1) (by omega) (by omega) rfl rfl (Nat.le_of_ble_eq_true rfl) d_LW_law_452 ?_
  rintro _ _ _ ⟨rfl, rfl, rfl⟩
  refine mm_istore (lv' := (6, .int v2) :: (5, .int k) :: lw_lv E b i) h d_LW_law_455 (by decide) rfl ?_
  refine mm_aload_n h d_LW_law_457 4 rfl rfl ?_
  refine mm_callV (k := 7) (a := 136) (q0 := _) (As := []) (rest := []) h (c_MD_thrown hw1) ⟨nw_724, nw_725, nw_726⟩ lk_thrown (by omega) rfl rfl (is_MO hw1) (by omega) (by omega) rfl rfl (Nat.le_of_ble_eq_true rfl) d_LW_law_458 ?_
  rintro _ _ _ ⟨rfl, rfl, rfl⟩
  rw [hk]
  refine mm_iload h d_LW_law_461 1 rfl ?_
  refine mm_icmp_eq (tgt := 468) h d_LW_law_463 rfl (fun _ => ?_) (fun q => absurd rfl q)
  refine mm_iload h d_LW_law_468 1 rfl ?_
  have fin : mm_go E Γ 7 485 ((6, .int v2) :: (5, .int k) :: lw_lv E b i) [] w1 f2 (ca + 3 + 0 + 0) (sa + 20 + 0 + 0) := mm_goto (tgt := 752) h d_LW_law_485 rfl (mm_sub [2, 3, 4, 5, 6] rfl (next w1 f2 hw1 hI))
  refine mm_if_ne (tgt := 485) h d_LW_law_470 rfl (fun _ => fin) (fun hk0 => ?_)
  refine mm_aload_n h d_LW_law_473 3 rfl rfl ?_
  refine mm_iconst h d_LW_law_474 rfl ?_
  refine mm_lald (n := 1) h (is_OT hw1) (by unfold vp_in; decide) d_LW_law_475 ?_
  have hv1 : mm_j w1 152 ((Int32.ofInt 0).toNatClampNeg) = v2.toInt64 := hv hk0
  rw [hv1]
  refine mm_iload h d_LW_law_476 0 rfl ?_
  refine mm_i2l h d_LW_law_478 rfl ?_
  refine mm_lcmp h d_LW_law_479 ?_
  rw [lg_cmp_self]
  exact mm_if_eq (tgt := 485) h d_LW_law_480 rfl (fun _ => fin) (fun z => absurd rfl z)
theorem lk_keyFrom : nm_cm y_MD_keyFrom b_MD_keyFrom 6 (some .int) 2 := ⟨nw_7, nw_771, by decide, by decide, by decide +kernel, by decide⟩
theorem lw_keyFrom (h : mm_ok E Γ code 7 "PlannedTablesLaw" 8 601024 7293034) (hs : mm_Sc E Γ b L xs) (hL : L ≤ 2048) (hi : i + 4 ≤ L) (hca : ca + 3 ≤ 601024) (hsa : sa + 20 ≤ 7293034) (hX : mm_oX E Γ) (hw : mm_sh w) (hW : mm_CW E y_LW_keyFrom b_LW_keyFrom 5 (some .int) [(0, 10, 13, 21), (0, 10, 17, 32)] 7 3 20 [mm_rf E 1, .int (xs (i + 1)), .int (xs (i + 2)), mm_rf E 152] w f P) (hB : lw_B E y_MD_keyFrom b_MD_keyFrom 6 .int lev2 [.int (xs (i + 1)), .int (xs (i + 2))] Int32.toInt64 P) (hlev : lev2 ≤ 7)
    (next : ∀ (w' : mm_W) (f' : mm_F), mm_sh w' → IV f' → mm_go E Γ 7 752 (lw_lv E b i) [] w' f' (ca + 3) (sa + 20)) : mm_go E Γ 7 488 (lw_lv E b i) [] w f ca sa := by
  refine mm_aload_n h d_LW_law_488 3 rfl rfl ?_
  refine lw_rd 1 4 0 h hs hL (by omega) rfl rfl d_LW_law_489 d_LW_law_490 d_LW_law_492 d_LW_law_493 d_LW_law_494 rfl ?_
  refine lw_rd 2 4 0 h hs hL (by omega) rfl rfl d_LW_law_495 d_LW_law_496 d_LW_law_498 d_LW_law_499 d_LW_law_500 rfl ?_
  refine mm_aload_n h d_LW_law_501 1 rfl rfl ?_
  refine mm_callW (As := [mm_rf E 1, .int (xs (i + 1)), .int (xs (i + 2)), mm_rf E 152]) (rest := []) h hX hW nw_494 nw_495 cw_keyFrom (by omega) hca hsa rfl rfl (Nat.le_of_ble_eq_true rfl) d_LW_law_502 fun r w1 f1 hp => ?_
  obtain ⟨k, v2, f2, rfl, hw1, hM, hk, hv, hI⟩ := hB _ _ _ hp
  refine mm_istore (lv' := (5, .int k) :: lw_lv E b i) h d_LW_law_505 (by decide) rfl ?_
  refine mm_aload_n h d_LW_law_507 3 rfl rfl ?_
  refine lw_rd 1 5 1 h hs hL (by omega) rfl rfl d_LW_law_508 d_LW_law_509 d_LW_law_511 d_LW_law_512 d_LW_law_513 rfl ?_
  refine lw_rd 2 5 1 h hs hL (by omega) rfl rfl d_LW_law_514 d_LW_law_515 d_LW_law_517 d_LW_law_518 d_LW_law_519 rfl ?_
  refine mm_callV (k := 7) (a := 136) (q0 := _) (As := [.int (xs (i + 1)), .int (xs (i + 2))]) (rest := []) h hM ⟨nw_768, nw_769, nw_770⟩ lk_keyFrom (by omega) rfl rfl (is_MO hw1) (by omega) (by omega) rfl rfl (Nat.le_of_ble_eq_true rfl) d_LW_law_520 ?_
  rintro _ _ _ ⟨rfl, rfl, rfl⟩
  refine mm_istore (lv' := (6, .int v2) :: (5, .int k) :: lw_lv E b i) h d_LW_law_523 (by decide) rfl ?_
  refine mm_aload_n h d_LW_law_525 4 rfl rfl ?_
  refine mm_callV (k := 7) (a := 136) (q0 := _) (As := []) (rest := []) h (c_MD_thrown hw1) ⟨nw_724, nw_725, nw_726⟩ lk_thrown (by omega) rfl rfl (is_MO hw1) (by omega) (by omega) rfl rfl (Nat.le_of_ble_eq_true rfl) d_LW_law_526 ?_
  rintro _ _ _ ⟨rfl, rfl, rfl⟩
  rw [hk]
  refine mm_iload h d_LW_law_529 1 rfl ?_
  refine mm_icmp_eq (tgt := 536) h d_LW_law_531 rfl (fun _ => ?_) (fun q => absurd rfl q)
  refine mm_iload h d_LW_law_536 1 rfl ?_
  have fin : mm_go E Γ 7 553 ((6, .int v2) :: (5, .int k) :: lw_lv E b i) [] w1 f2 (ca + 3 + 0 + 0) (sa + 20 + 0 + 0) := mm_goto (tgt := 752) h d_LW_law_553 rfl (mm_sub [2, 3, 4, 5, 6] rfl (next w1 f2 hw1 hI))
  refine mm_if_ne (tgt := 553) h d_LW_law_538 rfl (fun _ => fin) (fun hk0 => ?_)
  refine mm_aload_n h d_LW_law_541 3 rfl rfl ?_
  refine mm_iconst h d_LW_law_542 rfl ?_
  refine mm_lald (n := 1) h (is_OT hw1) (by unfold vp_in; decide) d_LW_law_543 ?_
  have hv1 : mm_j w1 152 ((Int32.ofInt 0).toNatClampNeg) = v2.toInt64 := hv hk0
  rw [hv1]
  refine mm_iload h d_LW_law_544 0 rfl ?_
  refine mm_i2l h d_LW_law_546 rfl ?_
  refine mm_lcmp h d_LW_law_547 ?_
  rw [lg_cmp_self]
  exact mm_if_eq (tgt := 553) h d_LW_law_548 rfl (fun _ => fin) (fun z => absurd rfl z)
theorem lk_run : nm_cm y_MD_run b_MD_run 2 (some .int) 1 := ⟨nw_7, nw_827, by decide, by decide, by decide +kernel, by decide⟩
theorem lw_run (h : mm_ok E Γ code 7 "PlannedTablesLaw" 8 601024 7293034) (hs : mm_Sc E Γ b L xs) (hL : L ≤ 2048) (hi : i + 4 ≤ L) (hca : ca + 3 ≤ 601024) (hsa : sa + 20 ≤ 7293034) (hX : mm_oX E Γ) (hw : mm_sh w) (hW : mm_CW E y_LW_run b_LW_run 4 (some .int) [(0, 9, 12, 13), (0, 9, 15, 26), (0, 9, 18, 15)] 7 3 20 [mm_rf E 1, .int (xs (i + 1)), mm_rf E 152] w f P) (hB : lw_B E y_MD_run b_MD_run 2 .int lev2 [.int (xs (i + 1))] Int32.toInt64 P) (hlev : lev2 ≤ 7)
    (next : ∀ (w' : mm_W) (f' : mm_F), mm_sh w' → IV f' → mm_go E Γ 7 752 (lw_lv E b i) [] w' f' (ca + 3) (sa + 20)) : mm_go E Γ 7 632 (lw_lv E b i) [] w f ca sa := by
  refine mm_aload_n h d_LW_law_632 3 rfl rfl ?_
  refine lw_rd 1 4 0 h hs hL (by omega) rfl rfl d_LW_law_633 d_LW_law_634 d_LW_law_636 d_LW_law_637 d_LW_law_638 rfl ?_
  refine mm_aload_n h d_LW_law_639 1 rfl rfl ?_
  refine mm_callW (As := [mm_rf E 1, .int (xs (i + 1)), mm_rf E 152]) (rest := []) h hX hW nw_504 nw_505 cw_run (by omega) hca hsa rfl rfl (Nat.le_of_ble_eq_true rfl) d_LW_law_640 fun r w1 f1 hp => ?_
  obtain ⟨k, v2, f2, rfl, hw1, hM, hk, hv, hI⟩ := hB _ _ _ hp
  refine mm_istore (lv' := (5, .int k) :: lw_lv E b i) h d_LW_law_643 (by decide) rfl ?_
  refine mm_aload_n h d_LW_law_645 3 rfl rfl ?_
  refine lw_rd 1 5 1 h hs hL (by omega) rfl rfl d_LW_law_646 d_LW_law_647 d_LW_law_649 d_LW_law_650 d_LW_law_651 rfl ?_
  refine mm_callV (k := 7) (a := 136) (q0 := _) (As := [.int (xs (i + 1))]) (rest := []) h hM ⟨nw_824, nw_825, nw_826⟩ lk_run (by omega) rfl rfl (is_MO hw1) (by omega) (by omega) rfl rfl (Nat.le_of_ble_eq_true rfl) d_LW_law_652 ?_
  rintro _ _ _ ⟨rfl, rfl, rfl⟩
  refine mm_istore (lv' := (6, .int v2) :: (5, .int k) :: lw_lv E b i) h d_LW_law_655 (by decide) rfl ?_
  refine mm_aload_n h d_LW_law_657 4 rfl rfl ?_
  refine mm_callV (k := 7) (a := 136) (q0 := _) (As := []) (rest := []) h (c_MD_thrown hw1) ⟨nw_724, nw_725, nw_726⟩ lk_thrown (by omega) rfl rfl (is_MO hw1) (by omega) (by omega) rfl rfl (Nat.le_of_ble_eq_true rfl) d_LW_law_658 ?_
  rintro _ _ _ ⟨rfl, rfl, rfl⟩
  rw [hk]
  refine mm_iload h d_LW_law_661 1 rfl ?_
  refine mm_icmp_eq (tgt := 668) h d_LW_law_663 rfl (fun _ => ?_) (fun q => absurd rfl q)
  refine mm_iload h d_LW_law_668 1 rfl ?_
  have fin : mm_go E Γ 7 685 ((6, .int v2) :: (5, .int k) :: lw_lv E b i) [] w1 f2 (ca + 3 + 0 + 0) (sa + 20 + 0 + 0) := mm_goto (tgt := 752) h d_LW_law_685 rfl (mm_sub [2, 3, 4, 5, 6] rfl (next w1 f2 hw1 hI))
  refine mm_if_ne (tgt := 685) h d_LW_law_670 rfl (fun _ => fin) (fun hk0 => ?_)
  refine mm_aload_n h d_LW_law_673 3 rfl rfl ?_
  refine mm_iconst h d_LW_law_674 rfl ?_
  refine mm_lald (n := 1) h (is_OT hw1) (by unfold vp_in; decide) d_LW_law_675 ?_
  have hv1 : mm_j w1 152 ((Int32.ofInt 0).toNatClampNeg) = v2.toInt64 := hv hk0
  rw [hv1]
  refine mm_iload h d_LW_law_676 0 rfl ?_
  refine mm_i2l h d_LW_law_678 rfl ?_
  refine mm_lcmp h d_LW_law_679 ?_
  rw [lg_cmp_self]
  exact mm_if_eq (tgt := 685) h d_LW_law_680 rfl (fun _ => fin) (fun z => absurd rfl z)
theorem lk_stage : nm_cm y_MD_stage b_MD_stage 3 (some .boolean) 2 := ⟨nw_7, nw_747, by decide, by decide, by decide +kernel, by decide⟩
theorem lp_stage : nm_cm y_PT_stage b_PT_stage 3 (some .boolean) 2 := ⟨nw_1, nw_195, by decide, by decide, by decide +kernel, by decide⟩
theorem lw_stage (h : mm_ok E Γ code 7 "PlannedTablesLaw" 8 601024 7293034) (hs : mm_Sc E Γ b L xs) (hL : L ≤ 2048) (hi : i + 4 ≤ L) (hca : ca + 3 ≤ 601024) (hsa : sa + 20 ≤ 7293034) (hw : mm_sh w) {v : Int32} {f1 f2 : mm_F} (hP : mm_C E y_PT_stage b_PT_stage 3 (some .boolean) lev1 0 0 [mm_rf E 1, .int (xs (i + 1)), .int (xs (i + 2))] w f (mm_P (some (.int v)) w f1)) (hM : mm_C E y_MD_stage b_MD_stage 3 (some .boolean) lev2 0 0 [mm_rf E 136, .int (xs (i + 1)), .int (xs (i + 2))] w f1 (mm_P (some (.int v)) w f2)) (hl1 : lev1 ≤ 7) (hl2 : lev2 ≤ 7) (hI : IV f2)
    (next : ∀ (w' : mm_W) (f' : mm_F), mm_sh w' → IV f' → mm_go E Γ 7 752 (lw_lv E b i) [] w' f' (ca + 3) (sa + 20)) : mm_go E Γ 7 247 (lw_lv E b i) [] w f ca sa := by
  refine mm_aload_n h d_LW_law_247 3 rfl rfl ?_
  refine lw_rd 1 4 0 h hs hL (by omega) rfl rfl d_LW_law_248 d_LW_law_249 d_LW_law_251 d_LW_law_252 d_LW_law_253 rfl ?_
  refine lw_rd 2 4 0 h hs hL (by omega) rfl rfl d_LW_law_254 d_LW_law_255 d_LW_law_257 d_LW_law_258 d_LW_law_259 rfl ?_
  refine mm_callV (k := 0) (a := 1) (q0 := _) (As := [.int (xs (i + 1)), .int (xs (i + 2))]) (rest := []) h hP ⟨nw_192, nw_193, nw_194⟩ lp_stage (by omega) rfl rfl (is_PT hw) (by omega) (by omega) rfl rfl (Nat.le_of_ble_eq_true rfl) d_LW_law_260 ?_
  rintro _ _ _ ⟨rfl, rfl, rfl⟩
  refine mm_aload_n h d_LW_law_263 2 rfl rfl ?_
  refine lw_rd 1 4 0 h hs hL (by omega) rfl rfl d_LW_law_264 d_LW_law_265 d_LW_law_267 d_LW_law_268 d_LW_law_269 rfl ?_
  refine lw_rd 2 4 0 h hs hL (by omega) rfl rfl d_LW_law_270 d_LW_law_271 d_LW_law_273 d_LW_law_274 d_LW_law_275 rfl ?_
  refine mm_callV (k := 7) (a := 136) (q0 := _) (As := [.int (xs (i + 1)), .int (xs (i + 2))]) (rest := [.int v]) h hM ⟨nw_744, nw_745, nw_746⟩ lk_stage (by omega) rfl rfl (is_MO hw) (by omega) (by omega) rfl rfl (Nat.le_of_ble_eq_true rfl) d_LW_law_276 ?_
  rintro _ _ _ ⟨rfl, rfl, rfl⟩
  exact mm_icmp_eq (tgt := 752) h d_LW_law_279 rfl (fun _ => mm_more (by omega) (by omega) (next w f2 hw hI)) (fun q => absurd rfl q)
theorem lk_rows : nm_cm y_MD_rows b_MD_rows 2 (some .int) 1 := ⟨nw_7, nw_775, by decide, by decide, by decide +kernel, by decide⟩
theorem lp_rows : nm_cm y_PT_rows b_PT_rows 2 (some .int) 1 := ⟨nw_1, nw_199, by decide, by decide, by decide +kernel, by decide⟩
theorem lw_rows (h : mm_ok E Γ code 7 "PlannedTablesLaw" 8 601024 7293034) (hs : mm_Sc E Γ b L xs) (hL : L ≤ 2048) (hi : i + 4 ≤ L) (hca : ca + 3 ≤ 601024) (hsa : sa + 20 ≤ 7293034) (hw : mm_sh w) {v : Int32} {f1 f2 : mm_F} (hP : mm_C E y_PT_rows b_PT_rows 2 (some .int) lev1 0 0 [mm_rf E 1, .int (xs (i + 1))] w f (mm_P (some (.int v)) w f1)) (hM : mm_C E y_MD_rows b_MD_rows 2 (some .int) lev2 0 0 [mm_rf E 136, .int (xs (i + 1))] w f1 (mm_P (some (.int v)) w f2)) (hl1 : lev1 ≤ 7) (hl2 : lev2 ≤ 7) (hI : IV f2)
    (next : ∀ (w' : mm_W) (f' : mm_F), mm_sh w' → IV f' → mm_go E Γ 7 752 (lw_lv E b i) [] w' f' (ca + 3) (sa + 20)) : mm_go E Γ 7 556 (lw_lv E b i) [] w f ca sa := by
  refine mm_aload_n h d_LW_law_556 3 rfl rfl ?_
  refine lw_rd 1 4 0 h hs hL (by omega) rfl rfl d_LW_law_557 d_LW_law_558 d_LW_law_560 d_LW_law_561 d_LW_law_562 rfl ?_
  refine mm_callV (k := 0) (a := 1) (q0 := _) (As := [.int (xs (i + 1))]) (rest := []) h hP ⟨nw_196, nw_197, nw_198⟩ lp_rows (by omega) rfl rfl (is_PT hw) (by omega) (by omega) rfl rfl (Nat.le_of_ble_eq_true rfl) d_LW_law_563 ?_
  rintro _ _ _ ⟨rfl, rfl, rfl⟩
  refine mm_aload_n h d_LW_law_566 2 rfl rfl ?_
  refine lw_rd 1 4 0 h hs hL (by omega) rfl rfl d_LW_law_567 d_LW_law_568 d_LW_law_570 d_LW_law_571 d_LW_law_572 rfl ?_
  refine mm_callV (k := 7) (a := 136) (q0 := _) (As := [.int (xs (i + 1))]) (rest := [.int v]) h hM ⟨nw_772, nw_773, nw_774⟩ lk_rows (by omega) rfl rfl (is_MO hw) (by omega) (by omega) rfl rfl (Nat.le_of_ble_eq_true rfl) d_LW_law_573 ?_
  rintro _ _ _ ⟨rfl, rfl, rfl⟩
  exact mm_icmp_eq (tgt := 752) h d_LW_law_576 rfl (fun _ => mm_more (by omega) (by omega) (next w f2 hw hI)) (fun q => absurd rfl q)
theorem lk_word : nm_cm y_MD_word b_MD_word 2 (some .boolean) 1 := ⟨nw_7, nw_779, by decide, by decide, by decide +kernel, by decide⟩
theorem lp_word : nm_cm y_PT_word b_PT_word 2 (some .boolean) 1 := ⟨nw_1, nw_207, by decide, by decide, by decide +kernel, by decide⟩
theorem lw_word (h : mm_ok E Γ code 7 "PlannedTablesLaw" 8 601024 7293034) (hs : mm_Sc E Γ b L xs) (hL : L ≤ 2048) (hi : i + 4 ≤ L) (hca : ca + 3 ≤ 601024) (hsa : sa + 20 ≤ 7293034) (hw : mm_sh w) {v : Int32} {f1 f2 : mm_F} (hP : mm_C E y_PT_word b_PT_word 2 (some .boolean) lev1 0 0 [mm_rf E 1, .int (xs (i + 1))] w f (mm_P (some (.int v)) w f1)) (hM : mm_C E y_MD_word b_MD_word 2 (some .boolean) lev2 0 0 [mm_rf E 136, .int (xs (i + 1))] w f1 (mm_P (some (.int v)) w f2)) (hl1 : lev1 ≤ 7) (hl2 : lev2 ≤ 7) (hI : IV f2)
    (next : ∀ (w' : mm_W) (f' : mm_F), mm_sh w' → IV f' → mm_go E Γ 7 752 (lw_lv E b i) [] w' f' (ca + 3) (sa + 20)) : mm_go E Γ 7 581 (lw_lv E b i) [] w f ca sa := by
  refine mm_aload_n h d_LW_law_581 3 rfl rfl ?_
  refine lw_rd 1 4 0 h hs hL (by omega) rfl rfl d_LW_law_582 d_LW_law_583 d_LW_law_585 d_LW_law_586 d_LW_law_587 rfl ?_
  refine mm_callV (k := 0) (a := 1) (q0 := _) (As := [.int (xs (i + 1))]) (rest := []) h hP ⟨nw_204, nw_205, nw_206⟩ lp_word (by omega) rfl rfl (is_PT hw) (by omega) (by omega) rfl rfl (Nat.le_of_ble_eq_true rfl) d_LW_law_588 ?_
  rintro _ _ _ ⟨rfl, rfl, rfl⟩
  refine mm_aload_n h d_LW_law_591 2 rfl rfl ?_
  refine lw_rd 1 4 0 h hs hL (by omega) rfl rfl d_LW_law_592 d_LW_law_593 d_LW_law_595 d_LW_law_596 d_LW_law_597 rfl ?_
  refine mm_callV (k := 7) (a := 136) (q0 := _) (As := [.int (xs (i + 1))]) (rest := [.int v]) h hM ⟨nw_776, nw_777, nw_778⟩ lk_word (by omega) rfl rfl (is_MO hw) (by omega) (by omega) rfl rfl (Nat.le_of_ble_eq_true rfl) d_LW_law_598 ?_
  rintro _ _ _ ⟨rfl, rfl, rfl⟩
  exact mm_icmp_eq (tgt := 752) h d_LW_law_601 rfl (fun _ => mm_more (by omega) (by omega) (next w f2 hw hI)) (fun q => absurd rfl q)
theorem lk_clear : nm_cm y_MD_clear b_MD_clear 2 (some .int) 0 := ⟨nw_7, nw_783, by decide, by decide, by decide +kernel, by decide⟩
theorem lp_clear : nm_cm y_PT_clear b_PT_clear 2 (some .int) 0 := ⟨nw_1, nw_211, by decide, by decide, by decide +kernel, by decide⟩
theorem lw_clear (h : mm_ok E Γ code 7 "PlannedTablesLaw" 8 601024 7293034) (hs : mm_Sc E Γ b L xs) (hL : L ≤ 2048) (hi : i + 4 ≤ L) (hca : ca + 3 ≤ 601024) (hsa : sa + 20 ≤ 7293034) (hw : mm_sh w) {v : Int32} {f1 f2 : mm_F} (hP : mm_C E y_PT_clear b_PT_clear 2 (some .int) lev1 0 0 [mm_rf E 1] w f (mm_P (some (.int v)) w f1)) (hM : mm_C E y_MD_clear b_MD_clear 2 (some .int) lev2 0 0 [mm_rf E 136] w f1 (mm_P (some (.int v)) w f2)) (hl1 : lev1 ≤ 7) (hl2 : lev2 ≤ 7) (hI : IV f2)
    (next : ∀ (w' : mm_W) (f' : mm_F), mm_sh w' → IV f' → mm_go E Γ 7 752 (lw_lv E b i) [] w' f' (ca + 3) (sa + 20)) : mm_go E Γ 7 606 (lw_lv E b i) [] w f ca sa := by
  refine mm_aload_n h d_LW_law_606 3 rfl rfl ?_
  refine mm_callV (k := 0) (a := 1) (q0 := _) (As := []) (rest := []) h hP ⟨nw_208, nw_209, nw_210⟩ lp_clear (by omega) rfl rfl (is_PT hw) (by omega) (by omega) rfl rfl (Nat.le_of_ble_eq_true rfl) d_LW_law_607 ?_
  rintro _ _ _ ⟨rfl, rfl, rfl⟩
  refine mm_aload_n h d_LW_law_610 2 rfl rfl ?_
  refine mm_callV (k := 7) (a := 136) (q0 := _) (As := []) (rest := [.int v]) h hM ⟨nw_780, nw_781, nw_782⟩ lk_clear (by omega) rfl rfl (is_MO hw) (by omega) (by omega) rfl rfl (Nat.le_of_ble_eq_true rfl) d_LW_law_611 ?_
  rintro _ _ _ ⟨rfl, rfl, rfl⟩
  exact mm_icmp_eq (tgt := 752) h d_LW_law_614 rfl (fun _ => mm_more (by omega) (by omega) (next w f2 hw hI)) (fun q => absurd rfl q)
theorem lk_fault : nm_cm y_MD_fault b_MD_fault 1 (some .int) 0 := ⟨nw_7, nw_787, by decide, by decide, by decide +kernel, by decide⟩
theorem lp_fault : nm_cm y_PT_fault b_PT_fault 1 (some .int) 0 := ⟨nw_1, nw_215, by decide, by decide, by decide +kernel, by decide⟩
theorem lw_fault (h : mm_ok E Γ code 7 "PlannedTablesLaw" 8 601024 7293034) (hs : mm_Sc E Γ b L xs) (hL : L ≤ 2048) (hi : i + 4 ≤ L) (hca : ca + 3 ≤ 601024) (hsa : sa + 20 ≤ 7293034) (hw : mm_sh w) {v : Int32} {f1 f2 : mm_F} (hP : mm_C E y_PT_fault b_PT_fault 1 (some .int) lev1 0 0 [mm_rf E 1] w f (mm_P (some (.int v)) w f1)) (hM : mm_C E y_MD_fault b_MD_fault 1 (some .int) lev2 0 0 [mm_rf E 136] w f1 (mm_P (some (.int v)) w f2)) (hl1 : lev1 ≤ 7) (hl2 : lev2 ≤ 7) (hI : IV f2)
    (next : ∀ (w' : mm_W) (f' : mm_F), mm_sh w' → IV f' → mm_go E Γ 7 752 (lw_lv E b i) [] w' f' (ca + 3) (sa + 20)) : mm_go E Γ 7 619 (lw_lv E b i) [] w f ca sa := by
  refine mm_aload_n h d_LW_law_619 3 rfl rfl ?_
  refine mm_callV (k := 0) (a := 1) (q0 := _) (As := []) (rest := []) h hP ⟨nw_212, nw_213, nw_214⟩ lp_fault (by omega) rfl rfl (is_PT hw) (by omega) (by omega) rfl rfl (Nat.le_of_ble_eq_true rfl) d_LW_law_620 ?_
  rintro _ _ _ ⟨rfl, rfl, rfl⟩
  refine mm_aload_n h d_LW_law_623 2 rfl rfl ?_
  refine mm_callV (k := 7) (a := 136) (q0 := _) (As := []) (rest := [.int v]) h hM ⟨nw_784, nw_785, nw_786⟩ lk_fault (by omega) rfl rfl (is_MO hw) (by omega) (by omega) rfl rfl (Nat.le_of_ble_eq_true rfl) d_LW_law_624 ?_
  rintro _ _ _ ⟨rfl, rfl, rfl⟩
  exact mm_icmp_eq (tgt := 752) h d_LW_law_627 rfl (fun _ => mm_more (by omega) (by omega) (next w f2 hw hI)) (fun q => absurd rfl q)
theorem lk_visits : nm_cm y_MD_visits b_MD_visits 1 (some .int) 0 := ⟨nw_7, nw_898, by decide, by decide, by decide +kernel, by decide⟩
theorem lp_visits : nm_cm y_PT_visits b_PT_visits 1 (some .int) 0 := ⟨nw_1, nw_261, by decide, by decide, by decide +kernel, by decide⟩
theorem lw_visits (h : mm_ok E Γ code 7 "PlannedTablesLaw" 8 601024 7293034) (hs : mm_Sc E Γ b L xs) (hL : L ≤ 2048) (hi : i + 4 ≤ L) (hca : ca + 3 ≤ 601024) (hsa : sa + 20 ≤ 7293034) (hw : mm_sh w) {v : Int32} {f1 f2 : mm_F} (hP : mm_C E y_PT_visits b_PT_visits 1 (some .int) lev1 0 0 [mm_rf E 1] w f (mm_P (some (.int v)) w f1)) (hM : mm_C E y_MD_visits b_MD_visits 1 (some .int) lev2 0 0 [mm_rf E 136] w f1 (mm_P (some (.int v)) w f2)) (hl1 : lev1 ≤ 7) (hl2 : lev2 ≤ 7) (hI : IV f2)
    (next : ∀ (w' : mm_W) (f' : mm_F), mm_sh w' → IV f' → mm_go E Γ 7 752 (lw_lv E b i) [] w' f' (ca + 3) (sa + 20)) : mm_go E Γ 7 688 (lw_lv E b i) [] w f ca sa := by
  refine mm_aload_n h d_LW_law_688 3 rfl rfl ?_
  refine mm_callV (k := 0) (a := 1) (q0 := _) (As := []) (rest := []) h hP ⟨nw_258, nw_259, nw_260⟩ lp_visits (by omega) rfl rfl (is_PT hw) (by omega) (by omega) rfl rfl (Nat.le_of_ble_eq_true rfl) d_LW_law_689 ?_
  rintro _ _ _ ⟨rfl, rfl, rfl⟩
  refine mm_aload_n h d_LW_law_692 2 rfl rfl ?_
  refine mm_callV (k := 7) (a := 136) (q0 := _) (As := []) (rest := [.int v]) h hM ⟨nw_895, nw_896, nw_897⟩ lk_visits (by omega) rfl rfl (is_MO hw) (by omega) (by omega) rfl rfl (Nat.le_of_ble_eq_true rfl) d_LW_law_693 ?_
  rintro _ _ _ ⟨rfl, rfl, rfl⟩
  exact mm_icmp_eq (tgt := 752) h d_LW_law_696 rfl (fun _ => mm_more (by omega) (by omega) (next w f2 hw hI)) (fun q => absurd rfl q)
theorem lk_size : nm_cm y_MD_size b_MD_size 1 (some .int) 0 := ⟨nw_7, nw_902, by decide, by decide, by decide +kernel, by decide⟩
theorem lp_size : nm_cm y_PT_size b_PT_size 1 (some .int) 0 := ⟨nw_1, nw_265, by decide, by decide, by decide +kernel, by decide⟩
theorem lw_size (h : mm_ok E Γ code 7 "PlannedTablesLaw" 8 601024 7293034) (hs : mm_Sc E Γ b L xs) (hL : L ≤ 2048) (hi : i + 4 ≤ L) (hca : ca + 3 ≤ 601024) (hsa : sa + 20 ≤ 7293034) (hw : mm_sh w) {v : Int32} {f1 f2 : mm_F} (hP : mm_C E y_PT_size b_PT_size 1 (some .int) lev1 0 0 [mm_rf E 1] w f (mm_P (some (.int v)) w f1)) (hM : mm_C E y_MD_size b_MD_size 1 (some .int) lev2 0 0 [mm_rf E 136] w f1 (mm_P (some (.int v)) w f2)) (hl1 : lev1 ≤ 7) (hl2 : lev2 ≤ 7) (hI : IV f2)
    (next : ∀ (w' : mm_W) (f' : mm_F), mm_sh w' → IV f' → mm_go E Γ 7 752 (lw_lv E b i) [] w' f' (ca + 3) (sa + 20)) : mm_go E Γ 7 701 (lw_lv E b i) [] w f ca sa := by
  refine mm_aload_n h d_LW_law_701 3 rfl rfl ?_
  refine mm_callV (k := 0) (a := 1) (q0 := _) (As := []) (rest := []) h hP ⟨nw_262, nw_263, nw_264⟩ lp_size (by omega) rfl rfl (is_PT hw) (by omega) (by omega) rfl rfl (Nat.le_of_ble_eq_true rfl) d_LW_law_702 ?_
  rintro _ _ _ ⟨rfl, rfl, rfl⟩
  refine mm_aload_n h d_LW_law_705 2 rfl rfl ?_
  refine mm_callV (k := 7) (a := 136) (q0 := _) (As := []) (rest := [.int v]) h hM ⟨nw_899, nw_900, nw_901⟩ lk_size (by omega) rfl rfl (is_MO hw) (by omega) (by omega) rfl rfl (Nat.le_of_ble_eq_true rfl) d_LW_law_706 ?_
  rintro _ _ _ ⟨rfl, rfl, rfl⟩
  exact mm_icmp_eq (tgt := 752) h d_LW_law_709 rfl (fun _ => mm_more (by omega) (by omega) (next w f2 hw hI)) (fun q => absurd rfl q)
theorem lk_out : nm_cm y_MD_out b_MD_out 2 (some .int) 1 := ⟨nw_7, nw_906, by decide, by decide, by decide +kernel, by decide⟩
theorem lp_out : nm_cm y_PT_out b_PT_out 2 (some .int) 1 := ⟨nw_1, nw_269, by decide, by decide, by decide +kernel, by decide⟩
theorem lw_out (h : mm_ok E Γ code 7 "PlannedTablesLaw" 8 601024 7293034) (hs : mm_Sc E Γ b L xs) (hL : L ≤ 2048) (hi : i + 4 ≤ L) (hca : ca + 3 ≤ 601024) (hsa : sa + 20 ≤ 7293034) (hw : mm_sh w) {v : Int32} {f1 f2 : mm_F} (hP : mm_C E y_PT_out b_PT_out 2 (some .int) lev1 0 0 [mm_rf E 1, .int (xs (i + 1))] w f (mm_P (some (.int v)) w f1)) (hM : mm_C E y_MD_out b_MD_out 2 (some .int) lev2 0 0 [mm_rf E 136, .int (xs (i + 1))] w f1 (mm_P (some (.int v)) w f2)) (hl1 : lev1 ≤ 7) (hl2 : lev2 ≤ 7) (hI : IV f2)
    (next : ∀ (w' : mm_W) (f' : mm_F), mm_sh w' → IV f' → mm_go E Γ 7 752 (lw_lv E b i) [] w' f' (ca + 3) (sa + 20)) : mm_go E Γ 7 714 (lw_lv E b i) [] w f ca sa := by
  refine mm_aload_n h d_LW_law_714 3 rfl rfl ?_
  refine lw_rd 1 4 0 h hs hL (by omega) rfl rfl d_LW_law_715 d_LW_law_716 d_LW_law_718 d_LW_law_719 d_LW_law_720 rfl ?_
  refine mm_callV (k := 0) (a := 1) (q0 := _) (As := [.int (xs (i + 1))]) (rest := []) h hP ⟨nw_266, nw_267, nw_268⟩ lp_out (by omega) rfl rfl (is_PT hw) (by omega) (by omega) rfl rfl (Nat.le_of_ble_eq_true rfl) d_LW_law_721 ?_
  rintro _ _ _ ⟨rfl, rfl, rfl⟩
  refine mm_aload_n h d_LW_law_724 2 rfl rfl ?_
  refine lw_rd 1 4 0 h hs hL (by omega) rfl rfl d_LW_law_725 d_LW_law_726 d_LW_law_728 d_LW_law_729 d_LW_law_730 rfl ?_
  refine mm_callV (k := 7) (a := 136) (q0 := _) (As := [.int (xs (i + 1))]) (rest := [.int v]) h hM ⟨nw_903, nw_904, nw_905⟩ lk_out (by omega) rfl rfl (is_MO hw) (by omega) (by omega) rfl rfl (Nat.le_of_ble_eq_true rfl) d_LW_law_731 ?_
  rintro _ _ _ ⟨rfl, rfl, rfl⟩
  exact mm_icmp_eq (tgt := 752) h d_LW_law_734 rfl (fun _ => mm_more (by omega) (by omega) (next w f2 hw hI)) (fun q => absurd rfl q)
theorem lk_width : nm_cm y_MD_width b_MD_width 1 (some .int) 0 := ⟨nw_7, nw_823, by decide, by decide, by decide +kernel, by decide⟩
theorem lp_width : nm_cm y_PT_width b_PT_width 1 (some .int) 0 := ⟨nw_1, nw_273, by decide, by decide, by decide +kernel, by decide⟩
theorem lw_width (h : mm_ok E Γ code 7 "PlannedTablesLaw" 8 601024 7293034) (hs : mm_Sc E Γ b L xs) (hL : L ≤ 2048) (hi : i + 4 ≤ L) (hca : ca + 3 ≤ 601024) (hsa : sa + 20 ≤ 7293034) (hw : mm_sh w) {v : Int32} {f1 f2 : mm_F} (hP : mm_C E y_PT_width b_PT_width 1 (some .int) lev1 0 0 [mm_rf E 1] w f (mm_P (some (.int v)) w f1)) (hM : mm_C E y_MD_width b_MD_width 1 (some .int) lev2 0 0 [mm_rf E 136] w f1 (mm_P (some (.int v)) w f2)) (hl1 : lev1 ≤ 7) (hl2 : lev2 ≤ 7) (hI : IV f2)
    (next : ∀ (w' : mm_W) (f' : mm_F), mm_sh w' → IV f' → mm_go E Γ 7 752 (lw_lv E b i) [] w' f' (ca + 3) (sa + 20)) : mm_go E Γ 7 739 (lw_lv E b i) [] w f ca sa := by
  refine mm_aload_n h d_LW_law_739 3 rfl rfl ?_
  refine mm_callV (k := 0) (a := 1) (q0 := _) (As := []) (rest := []) h hP ⟨nw_270, nw_271, nw_272⟩ lp_width (by omega) rfl rfl (is_PT hw) (by omega) (by omega) rfl rfl (Nat.le_of_ble_eq_true rfl) d_LW_law_740 ?_
  rintro _ _ _ ⟨rfl, rfl, rfl⟩
  refine mm_aload_n h d_LW_law_743 2 rfl rfl ?_
  refine mm_callV (k := 7) (a := 136) (q0 := _) (As := []) (rest := [.int v]) h hM ⟨nw_820, nw_821, nw_822⟩ lk_width (by omega) rfl rfl (is_MO hw) (by omega) (by omega) rfl rfl (Nat.le_of_ble_eq_true rfl) d_LW_law_744 ?_
  rintro _ _ _ ⟨rfl, rfl, rfl⟩
  exact mm_icmp_eq (tgt := 752) h d_LW_law_747 rfl (fun _ => mm_more (by omega) (by omega) (next w f2 hw hI)) (fun q => absurd rfl q)
end LC
