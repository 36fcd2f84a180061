/-! The law: one turn, the loop. -/
section LT
variable {E : mm_E} {Γ : mm_G} {w : mm_W} {f : mm_F} {ca sa b L i : Nat} {xs : Nat → Int32}
theorem and15 (x : Int32) : ∃ k, k < 16 ∧ x &&& 15 = nI k := by
  refine ⟨(x &&& 15).toBitVec.toNat, ?_, ?_⟩
  · have e : (x &&& 15).toBitVec.toNat = x.toBitVec.toNat &&& 15 := by
      rw [Int32.toBitVec_and, BitVec.toNat_and]; rfl
    rw [e]
    exact Nat.lt_succ_of_le Nat.and_le_right
  · apply Int32.toBitVec_inj.mp
    show _ = (Int32.ofNat _).toBitVec
    simp
theorem lw_turn (h : mm_ok E Γ code 7 "PlannedTablesLaw" 8 601024 7293034) (hX : mm_oX E Γ) (hs : mm_Sc E Γ b L xs) (hL : L ≤ 2048) (hi : i + 4 ≤ L) (hca : ca + 3 ≤ 601024) (hsa : sa + 20 ≤ 7293034) (hw : mm_sh w) (hI : IV f)
    (next : ∀ (w' : mm_W) (f' : mm_F), mm_sh w' → IV f' → mm_go E Γ 7 752 (lw_lv E b i) [] w' f' (ca + 3) (sa + 20)) : mm_go E Γ 7 32 (lw_lv E b i) [] w f ca sa := by
  have hfl := hX.2.2
  obtain ⟨m, R, W, n, cl, hv⟩ := hI
  have m4 := hv.1.2.1
  have R48 := hv.2.1.2.2.1
  refine mm_aload_n h d_LW_law_32 4 rfl rfl ?_
  refine mm_iload h d_LW_law_33 0 rfl ?_
  refine lw_ald h hs hL (by omega) d_LW_law_35 ?_
  refine mm_bipush h d_LW_law_36 rfl ?_
  refine mm_iand h d_LW_law_38 ?_
  obtain ⟨k, hk, ek⟩ := and15 (xs i)
  rw [show (Int8.ofInt 15).toInt32 = (15 : Int32) from by decide, ek]
  have cs : k = 0 ∨ k = 1 ∨ k = 2 ∨ k = 3 ∨ k = 4 ∨ k = 5 ∨ k = 6 ∨ k = 7 ∨ k = 8 ∨ k = 9 ∨ k = 10 ∨ k = 11 ∨ k = 12 ∨ k = 13 ∨ k = 14 ∨ k = 15 := by omega
  rcases cs with rfl | rfl | rfl | rfl | rfl | rfl | rfl | rfl | rfl | rfl | rfl | rfl | rfl | rfl | rfl | rfl
  · refine mm_tin (tgt := 116) h d_LW_law_39 (by decide) (by decide) rfl rfl ?_
    obtain ⟨P, p1, p2⟩ := lb_table (E := E) hfl hw hv (xs (i + 1))
    exact lw_table h hs hL hi hca hsa hX hw p1 p2 (by omega) next
  · refine mm_tin (tgt := 172) h d_LW_law_39 (by decide) (by decide) rfl rfl ?_
    obtain ⟨P, p1, p2⟩ := lb_index (E := E) hfl hw hv (xs (i + 1)) (xs (i + 2))
    exact lw_index h hs hL hi hca hsa hX hw p1 p2 (by omega) next
  · refine mm_tin (tgt := 247) h d_LW_law_39 (by decide) (by decide) rfl rfl ?_
    obtain ⟨e1, e2⟩ := hv.stage (xs (i + 1)) (xs (i + 2))
    have c := c_PT_stage (E := E) (f := f) (x := xs (i + 1)) (y := xs (i + 2)) hw
    rw [e1] at c
    exact lw_stage h hs hL hi hca hsa hw c (c_MD_stage hw) (by omega) (by omega) ⟨m, R, W, n, cl, e2⟩ next
  · refine mm_tin (tgt := 284) h d_LW_law_39 (by decide) (by decide) rfl rfl ?_
    obtain ⟨P, p1, p2⟩ := lb_insert (E := E) hfl hw hv (xs (i + 1))
    exact lw_insert h hs hL hi hca hsa hX hw p1 p2 (by omega) next
  · refine mm_tin (tgt := 340) h d_LW_law_39 (by decide) (by decide) rfl rfl ?_
    obtain ⟨P, p1, p2⟩ := lb_delete (E := E) hfl hw hv (xs (i + 1)) (xs (i + 2))
    exact lw_delete h hs hL hi hca hsa hX hw p1 p2 (by omega) next
  · refine mm_tin (tgt := 408) h d_LW_law_39 (by decide) (by decide) rfl rfl ?_
    obtain ⟨P, p1, p2⟩ := lb_cell (E := E) hfl hw hv (xs (i + 1)) (xs (i + 2)) (xs (i + 3))
    exact lw_cell h hs hL hi hca hsa hX hw p1 p2 (by omega) next
  · refine mm_tin (tgt := 488) h d_LW_law_39 (by decide) (by decide) rfl rfl ?_
    obtain ⟨P, p1, p2⟩ := lb_keyFrom (E := E) hfl hw hv (xs (i + 1)) (xs (i + 2))
    exact lw_keyFrom h hs hL hi hca hsa hX hw p1 p2 (by omega) next
  · refine mm_tin (tgt := 556) h d_LW_law_39 (by decide) (by decide) rfl rfl ?_
    have c := c_PT_rows (E := E) (f := f) (m := m) (x := xs (i + 1)) hw hv.1.1 m4
    rw [hv.rows] at c
    exact lw_rows h hs hL hi hca hsa hw c (c_MD_rows hw hv.2.1.1 m4 hv.2.1.2.1 R48) (by omega) (by omega) ⟨m, R, W, n, cl, hv.code 0⟩ next
  · refine mm_tin (tgt := 581) h d_LW_law_39 (by decide) (by decide) rfl rfl ?_
    obtain ⟨⟨w1, w2, w3, w4⟩, -⟩ := hv.2.2
    obtain ⟨q1, q2⟩ := hv.word (xs (i + 1)) _ rfl
    have c := c_PT_word (E := E) (f := f) (len := W) (x := xs (i + 1)) hw w1 w2
    by_cases z : W = 40
    · have d := c_MD_word (E := E) (w := w) (f := if W < 40 then mm_up (mm_up f 54 W (xs (i + 1))) 53 1 (nI (W + 1)) else f) (x := xs (i + 1)) (k := W) hw (by rw [if_neg (by omega)]; exact w3) w2
      rw [if_pos z] at d
      rw [show (if W < 40 then (1 : Int32) else 0) = 0 from if_neg (by omega)] at c
      exact lw_word h hs hL hi hca hsa hw c d (by omega) (by omega) ⟨m, R, W, n, cl, q1 z⟩ next
    · have d := c_MD_word (E := E) (w := w) (f := if W < 40 then mm_up (mm_up f 54 W (xs (i + 1))) 53 1 (nI (W + 1)) else f) (x := xs (i + 1)) (k := W) hw (by rw [if_pos (by omega), mm_up_ne _ _ (by omega), mm_up_ne _ _ (by omega)]; exact w3) w2
      rw [if_neg z] at d
      rw [show (if W < 40 then (1 : Int32) else 0) = 1 from if_pos (by omega)] at c
      exact lw_word h hs hL hi hca hsa hw c d (by omega) (by omega) ⟨m, R, W + 1, n, cl, q2 z⟩ next
  · refine mm_tin (tgt := 606) h d_LW_law_39 (by decide) (by decide) rfl rfl ?_
    obtain ⟨e1, e2⟩ := hv.clear
    have c := c_PT_clear (E := E) (f := f) hw
    rw [e1] at c
    exact lw_clear h hs hL hi hca hsa hw c (c_MD_clear hw) (by omega) (by omega) ⟨m, R, 0, n, cl, e2⟩ next
  · refine mm_tin (tgt := 619) h d_LW_law_39 (by decide) (by decide) rfl rfl ?_
    obtain ⟨e1, e2, e3⟩ := hv.fault
    have c := c_PT_fault (E := E) (f := f) (len := W) hw hv.2.2.1.1 hv.2.2.1.2.1 hv.Tok
    rw [e1] at c
    exact lw_fault h hs hL hi hca hsa hw c (c_MD_fault hw (hv.look (ltF_fr f)).Mk) (by omega) (by omega) ⟨m, R, W, n, cl, e3⟩ next
  · refine mm_tin (tgt := 632) h d_LW_law_39 (by decide) (by decide) rfl rfl ?_
    obtain ⟨P, p1, p2⟩ := lb_run (E := E) hfl hw hv (xs (i + 1))
    exact lw_run h hs hL hi hca hsa hX hw p1 p2 (by omega) next
  · refine mm_tin (tgt := 688) h d_LW_law_39 (by decide) (by decide) rfl rfl ?_
    have c := c_PT_visits (E := E) (f := f) hw
    rw [hv.2.2.2.1] at c
    exact lw_visits h hs hL hi hca hsa hw c (c_MD_visits hw) (by omega) (by omega) ⟨m, R, W, n, cl, hv.code 0⟩ next
  · refine mm_tin (tgt := 701) h d_LW_law_39 (by decide) (by decide) rfl rfl ?_
    obtain ⟨u, u1, u2, u3, u4⟩ := hv.out
    have c := c_PT_size (E := E) (f := f) hw
    rw [u2, ← u3] at c
    exact lw_size h hs hL hi hca hsa hw c (c_MD_size hw) (by omega) (by omega) ⟨m, R, W, n, cl, hv.code 0⟩ next
  · refine mm_tin (tgt := 714) h d_LW_law_39 (by decide) (by decide) rfl rfl ?_
    obtain ⟨u, u1, u2, u3, u4⟩ := hv.out
    have c := c_PT_out (E := E) (f := f) (x := xs (i + 1)) hw u2 u1
    rw [u4] at c
    exact lw_out h hs hL hi hca hsa hw c (c_MD_out hw u3 u1) (by omega) (by omega) ⟨m, R, W, n, cl, hv.code 0⟩ next
  · refine mm_tin (tgt := 739) h d_LW_law_39 (by decide) (by decide) rfl rfl ?_
    obtain ⟨e1, e2, e3⟩ := hv.fault
    have c := c_PT_width (E := E) (f := f) (len := W) hw hv.2.2.1.1 hv.2.2.1.2.1 hv.Tok
    rw [e2] at c
    exact lw_width h hs hL hi hca hsa hw c (c_MD_width hw (hv.look (ltF_fr f)).Mk) (by omega) (by omega) ⟨m, R, W, n, cl, e3⟩ next
theorem lt4 : ∀ L, L < 4 → nI L - 4 < 0 := by decide +kernel
theorem cmp4 (hL : L ≤ 2048) (hi : i ≤ 4096) (h : ¬ nI L - 4 < nI i) : i + 4 ≤ L := by
  by_cases z : L < 4
  · exact absurd (Int32.lt_of_lt_of_le (lt4 L z) (nI_pos' (by omega))) h
  · have e : nI L - 4 = nI (L - 4) := by
      have : nI (L - 4) + nI 4 = nI L := by rw [nI_add]; congr 1; omega
      rw [← this]
      exact Int32.add_sub_cancel _ _
    rw [e] at h
    have := mt (nI_lt (a := L - 4) (b := i) · (by omega)) h
    omega
theorem lw_loop (h : mm_ok E Γ code 7 "PlannedTablesLaw" 8 601024 7293034) (hX : mm_oX E Γ) (hs : mm_Sc E Γ b L xs) (hL : L ≤ 2048) (hend : ∀ (lv : List (Nat × Value)) (w : mm_W) (f : mm_F), mm_go E Γ 7 759 lv [.int 1] w f 601024 7293034) :
    ∀ (k i ca sa : Nat) (w : mm_W) (f : mm_F), i ≤ 2052 → L < i + 4 * k + 4 → ca + 3 * k ≤ 601024 → sa + 20 * k ≤ 7293034 → mm_sh w → IV f → mm_go E Γ 7 23 (lw_lv E b i) [] w f ca sa := by
  intro k
  induction k with
  | zero =>
    intro i ca sa w f h1 h2 h3 h4 hw hI
    refine mm_iload h d_LW_law_23 0 rfl ?_
    refine mm_aload_n h d_LW_law_25 4 rfl rfl ?_
    refine lw_len h hs d_LW_law_26 ?_
    refine mm_iconst (v := 4) h d_LW_law_27 (by decide) ?_
    refine mm_isub h d_LW_law_28 ?_
    refine mm_icmp_gt (tgt := 758) h d_LW_law_29 rfl (fun _ => ?_) (fun q => ?_)
    · refine mm_iconst h d_LW_law_758 rfl ?_
      exact mm_more (by omega) (by omega) (hend _ w f)
    · have := cmp4 hL (by omega) q
      omega
  | succ k ih =>
    intro i ca sa w f h1 h2 h3 h4 hw hI
    refine mm_iload h d_LW_law_23 0 rfl ?_
    refine mm_aload_n h d_LW_law_25 4 rfl rfl ?_
    refine lw_len h hs d_LW_law_26 ?_
    refine mm_iconst (v := 4) h d_LW_law_27 (by decide) ?_
    refine mm_isub h d_LW_law_28 ?_
    refine mm_icmp_gt (tgt := 758) h d_LW_law_29 rfl (fun _ => ?_) (fun q => ?_)
    · refine mm_iconst h d_LW_law_758 rfl ?_
      exact mm_more (by omega) (by omega) (hend _ w f)
    · have hi := cmp4 hL (by omega) q
      refine lw_turn h hX hs hL hi (by omega) (by omega) hw hI fun w' f' hw' hI' => ?_
      refine mm_iinc (v := nI (i + 4)) (lv' := lw_lv E b (i + 4)) h d_LW_law_752 0 rfl (nI_add i 4) (by decide) rfl ?_
      refine mm_goto (tgt := 23) h d_LW_law_755 rfl ?_
      exact ih (i + 4) (ca + 3) (sa + 20) w' f' (by omega) (by omega) (by omega) (by omega) hw' hI'
end LT
