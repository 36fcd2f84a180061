/-! The class's run. -/
section CPR
variable {E : mm_E} {w : mm_W} {f : mm_F} {m R W : Nat} {nn cl : Nat → Nat}
/-- the world with a new run in it -/
def wA (w : mm_W) : mm_W := mm_sr (mm_sr (mm_sr (mm_sr (mm_new (mm_new w 6 0) 100 8) (mm_n w) 5 (mm_n w + 1)) (mm_n w) 0 2) (mm_n w) 1 53) (mm_n w) 2 134
def fA (w : mm_W) (f : mm_F) (x : Int32) : mm_F := mm_up (mm_f0 (mm_new w 6 0) (mm_f0 w f)) (mm_n w) 3 x
theorem wA_sh (hw : mm_sh w) : mm_sh (wA w) := by
  have h0 := hw.1
  refine ⟨by show 153 ≤ mm_n w + 1 + 1; omega, fun a h1 h2 => ?_⟩
  obtain ⟨p1, p2, p3⟩ := hw.2 a h1 h2
  refine ⟨?_, ?_, fun j => ?_⟩
  · show mm_k (mm_new (mm_new w 6 0) 100 8) a = _
    rw [mm_k_new, mm_n_new, if_neg (by omega), mm_k_new, if_neg (by omega)]; exact p1
  · show mm_l (mm_new (mm_new w 6 0) 100 8) a = _
    rw [mm_l_new, mm_n_new, if_neg (by omega), mm_l_new, if_neg (by omega)]; exact p2
  · show mm_up (mm_up (mm_up (mm_up (mm_r (mm_new (mm_new w 6 0) 100 8)) (mm_n w) 5 (mm_n w + 1)) (mm_n w) 0 2) (mm_n w) 1 53) (mm_n w) 2 134 a j = _
    rw [mm_up_ne _ _ (by omega), mm_up_ne _ _ (by omega), mm_up_ne _ _ (by omega), mm_up_ne _ _ (by omega), mm_r_new, mm_n_new, if_neg (by omega), mm_r_new, if_neg (by omega)]; exact p3 j
theorem wA_run (hw : mm_sh w) : mm_run (wA w) (mm_n w) := by
  have h0 := hw.1
  have k0 : mm_k (wA w) (mm_n w) = 6 := by
    show mm_k (mm_new (mm_new w 6 0) 100 8) (mm_n w) = _
    rw [mm_k_new, mm_n_new, if_neg (by omega), mm_k_new, if_pos rfl]
  have k1 : mm_k (wA w) (mm_n w + 1) = 100 := by
    show mm_k (mm_new (mm_new w 6 0) 100 8) (mm_n w + 1) = _
    rw [mm_k_new, mm_n_new, if_pos rfl]
  have l1 : mm_l (wA w) (mm_n w + 1) = 8 := by
    show mm_l (mm_new (mm_new w 6 0) 100 8) (mm_n w + 1) = _
    rw [mm_l_new, mm_n_new, if_pos rfl]
  have r : ∀ j, mm_r (wA w) (mm_n w) j = mm_up (mm_up (mm_up (mm_up (mm_r (mm_new (mm_new w 6 0) 100 8)) (mm_n w) 5 (mm_n w + 1)) (mm_n w) 0 2) (mm_n w) 1 53) (mm_n w) 2 134 (mm_n w) j := fun j => rfl
  have n0 : mm_n (wA w) = mm_n w + 2 := rfl
  refine ⟨h0, ⟨by omega, by rw [n0]; omega, k0⟩, ?_, ?_, ?_, ?_, ⟨by omega, by rw [n0]; omega, k1⟩, l1⟩
  · rw [r, mm_up_ne _ _ (by omega), mm_up_ne _ _ (by omega), mm_up_eq]
  · rw [r, mm_up_ne _ _ (by omega), mm_up_eq]
  · rw [r, mm_up_eq]
  · rw [r, mm_up_ne _ _ (by omega), mm_up_ne _ _ (by omega), mm_up_ne _ _ (by omega), mm_up_eq]
theorem fA_at {x : Int32} (hw : mm_sh w) : (∀ a, a < 153 → fA w f x a = f a) ∧ fA w f x (mm_n w) 3 = x ∧ fA w f x (mm_n w) 4 = 0 := by
  have h0 := hw.1
  refine ⟨fun a ha => ?_, mm_up_eq _ _ _ _, ?_⟩
  · unfold fA
    rw [mm_up_off _ _ (by omega), mm_f0_at, mm_n_new, if_neg (by omega), mm_f0_at, if_neg (by omega)]
  · unfold fA
    rw [mm_up_ne _ _ (by omega), mm_f0_at, mm_n_new, if_neg (by omega), mm_f0_at, if_pos rfl]
/-- the memory of a run that the class refuses or begins -/
def fE (f : mm_F) : mm_F := mm_up (mm_up f 134 1 0) 134 2 0
theorem run_head {Γ : mm_G} {lev kc ks : Nat} {x : Int32} (hw : mm_sh w) (hv : Iv f m R W nn cl) (h : mm_ok E Γ b_PT_run 4 "PlannedTables" lev kc ks) (hl : 5 ≤ lev) (k : mm_go E Γ 4 18 [(0, mm_rf E 1), (1, .int x)] [] w (ltF (fE f)) 0 0) : mm_go E Γ 4 0 [(0, mm_rf E 1), (1, .int x)] [] w f 0 0 := by
  have e1 : ∀ a, ¬ a = 134 → fE f a = f a := fun a ha => by unfold fE; rw [mm_up_off _ _ ha, mm_up_off _ _ ha]
  refine s_PT_run_0 (vl0 := 0) (vc0 := 0) (vs0 := 0) h hw (by omega) (by omega) (by omega) (c_OP_empty hw) ?_
  rintro _ _ _ ⟨rfl, rfl, rfl⟩
  refine s_PT_run_7 (vl0 := 4) (vc0 := 0) (vs0 := 0) h hw (by omega) (by omega) (by omega) (c_PN_lookThrough (len := W) hw (by rw [show (mm_up (mm_up f 134 1 0) 134 2 0) 53 = f 53 from e1 53 (by omega)]; exact hv.2.2.1.1) hv.2.2.1.2.1 ?_) ?_
  · obtain ⟨a, b, c, d⟩ := hv.Tok
    refine ⟨a, b, by rw [show (mm_up (mm_up f 134 1 0) 134 2 0) 2 = f 2 from e1 2 (by omega)]; exact c, fun t ht => ?_⟩
    obtain ⟨y, y1, y2⟩ := d t ht
    exact ⟨y, y1, by rw [show (mm_up (mm_up f 134 1 0) 134 2 0) (4 + 12 * t) = f (4 + 12 * t) from e1 _ (by omega)]; exact y2⟩
  · rintro _ _ _ ⟨rfl, rfl, rfl⟩
    exact k
theorem c_PT_run_1 {x : Int32} (hfl : E.1.flags = flags0) (hw : mm_sh w) (hv : Iv f m R W nn cl) (hb : ¬ (ltF (fE f)) 53 2 = -1 ∨ x < 0) : mm_T E y_PT_run b_PT_run 4 (some .int) 6 1 6 [mm_rf E 1, .int x] w f 8 w (ltF (fE f)) := by
  refine mm_startT hfl (by decide) rfl (Nat.le_of_ble_eq_true rfl) fun Γ h hX hE he => ?_
  refine run_head hw hv h (by omega) ?_
  have t := t_PT_run_33 (ca := 0) (sa := 0) (lv := [(0, mm_rf E 1), (1, .int x)]) h hX hE (by omega) (sh_n hw) (by omega) (by omega)
  refine s_PT_run_18 h hw (fun _ => t) (fun q1 q2 => ?_) (fun _ _ => t)
  rcases hb with z | z
  · exact absurd q1 z
  · exact absurd q2 (Int32.not_le.mpr z)
/-- from the begun run to its answer -/
theorem run_mid {Γ : mm_G} {kc ks N F : Nat} {r : Int32} {fc : mm_F} (hw : mm_sh w) (hv : Iv f m R W nn cl) (h : mm_ok E Γ b_PT_run 4 "PlannedTables" 6 kc ks) (hkc : 2 ≤ kc) (hks : 14 ≤ ks) (hF : F < 2 ^ 31) (hok : (ltF (fE f)) 53 2 = -1) (I : mm_F → Nat → Int32 → Prop) (i1 : 1 ≤ N) (i2 : N ≤ 39)
    (i3 : ∀ k, k ≤ N → itB k (fA w (ltF (fE f)) (nI F)) 53 4 = nI N ∧ itB k (fA w (ltF (fE f)) (nI F)) (mm_n w) 3 = nI F) (i4 : ∀ k, k < N → tOK (itB k (fA w (ltF (fE f)) (nI F))) k) (i5 : I (itB N (fA w (ltF (fE f)) (nI F))) (N - 1) 0)
    (i6 : ∀ (g : mm_F) (a : Nat) (nw : Int32), I g a nw → a < N ∧ sOK g a ∧ (∃ u, u ≤ 64 ∧ (reF g (mm_n w) a nw).1 134 1 = nI u) ∧ (∃ k, k ≤ 8 ∧ (reF g (mm_n w) a nw).1 53 3 = nI k) ∧ ((reF g (mm_n w) a nw).2 = 0 → 0 < a) ∧ ((reF g (mm_n w) a nw).2 = 0 ∨ (reF g (mm_n w) a nw).2 = 1 ∨ (reF g (mm_n w) a nw).2 = 2 ∨ (reF g (mm_n w) a nw).2 = 3) ∧ ∀ (g' : mm_F) (a' : Nat) (nw' : Int32), nxM g (mm_n w) (N - 1) a nw = (none, g', a', nw') → I g' a' nw')
    (i7 : ruM ((F + 4) * 78) (itB N (fA w (ltF (fE f)) (nI F))) (mm_n w) (N - 1) (N - 1) 0 = some (r, fc))
    (k : mm_go E Γ 4 68 [(0, mm_rf E 1), (1, .int (nI F)), (2, mm_rf E (mm_n w))] [.int r] (wA w) fc 2 14) : mm_go E Γ 4 18 [(0, mm_rf E 1), (1, .int (nI F))] [] w (ltF (fE f)) 0 0 := by
  have h0 := hw.1
  refine s_PT_run_18 h hw (fun q => absurd hok q) (fun _ _ => ?_) (fun _ q => absurd (nI_pos' hF) q)
  refine mm_newc (k := 6) (N := 6) (q := _) h rfl cl_PT_139 in_RN iz_RN (by omega) (by omega) (by omega) d_PT_run_43 ?_
  have hw1 : mm_sh (mm_new w 6 0) := ⟨by show 153 ≤ mm_n w + 1; omega, fun a h1 h2 => by
    obtain ⟨p1, p2, p3⟩ := hw.2 a h1 h2
    refine ⟨by rw [mm_k_new, if_neg (by omega)]; exact p1, by rw [mm_l_new, if_neg (by omega)]; exact p2, fun j => by rw [mm_r_new, if_neg (by omega)]; exact p3 j⟩⟩
  refine mm_dup h d_PT_run_46 rfl ?_
  refine mm_aload_n h d_PT_run_47 0 rfl rfl ?_
  refine mm_getr h fl_PT_12 rfl (is_PT hw1) (rf_PT_tables hw1) (by omega) d_PT_run_48 ?_
  refine mm_aload_n h d_PT_run_51 0 rfl rfl ?_
  refine mm_getr h fl_PT_23 rfl (is_PT hw1) (rf_PT_plan hw1) (by omega) d_PT_run_52 ?_
  refine mm_aload_n h d_PT_run_55 0 rfl rfl ?_
  refine mm_getr h fl_PT_30 rfl (is_PT hw1) (rf_PT_output hw1) (by omega) d_PT_run_56 ?_
  refine mm_iload_n h d_PT_run_59 1 rfl rfl ?_
  refine mm_callI (As := [mm_rf E 2, mm_rf E 53, mm_rf E 134, .int (nI F)]) (rest := [mm_rf E (mm_n w)]) h (c_RN_init (n := mm_n w) hw1 h0 rfl (by rw [mm_k_new, if_pos rfl])) rfl ci_PT_141 ii_RN_init cm_RN_init (by omega) (by omega) (by omega) rfl rfl (Nat.le_of_ble_eq_true rfl) d_PT_run_60 ?_
  rintro _ _ _ ⟨rfl, rfl, rfl⟩
  refine s_PT_run_63 (vl0 := 5) (vc0 := 0) (vs0 := 0) h (wA_sh hw) (wA_run hw) (by omega) (by omega) (by omega) (c_RN_askForAll (wA_sh hw) (wA_run hw) (by omega) i2 hF i3 i4 i5 i6 (Nat.le_refl _) i7) ?_
  rintro _ _ _ ⟨rfl, rfl, rfl⟩
  exact k
theorem c_PT_run_2 {N F : Nat} {fc : mm_F} (hw : mm_sh w) (hv : Iv f m R W nn cl) (hF : F < 2 ^ 31) (hmid : ∀ {Γ : mm_G} {kc ks : Nat}, mm_ok E Γ b_PT_run 4 "PlannedTables" 6 kc ks → 2 ≤ kc → 14 ≤ ks → mm_go E Γ 4 68 [(0, mm_rf E 1), (1, .int (nI F)), (2, mm_rf E (mm_n w))] [.int 2] (wA w) fc 2 14 → mm_go E Γ 4 18 [(0, mm_rf E 1), (1, .int (nI F))] [] w (ltF (fE f)) 0 0) :
    mm_C E y_PT_run b_PT_run 4 (some .int) 6 2 14 [mm_rf E 1, .int (nI F)] w f (mm_P (some (.int (fc 134 2))) (wA w) (mm_up fc 1 4 (fc (mm_n w) 4))) := by
  refine mm_start (by decide) rfl (Nat.le_of_ble_eq_true rfl) fun Γ h he => ?_
  refine run_head hw hv h (by omega) (hmid h (by omega) (by omega) ?_)
  refine s_PT_run_68 (vl0 := 0) (vc0 := 0) (vs0 := 0) (P0 := fun _ _ _ => False) h (wA_sh hw) (wA_run hw) (fun _ => ?_) (by omega) (by omega) (by omega) (fun q => absurd rfl q) (fun q => absurd rfl q)
  refine s_PT_run_81 h he (by omega) (by omega) (wA_sh hw) (wA_run hw) (fun _ _ => ⟨?_, rfl, rfl⟩) (fun _ q => absurd q (by decide)) (fun q => absurd q (by decide))
  rw [mm_up_ne _ _ (by omega)]
theorem c_PT_run_34 {N F k : Nat} {r : Int32} {fc : mm_F} (hfl : E.1.flags = flags0) (hw : mm_sh w) (hv : Iv f m R W nn cl) (hF : F < 2 ^ 31) (hr : r = 3 ∧ k = 11 ∨ r = 4 ∧ k = 9) (hmid : ∀ {Γ : mm_G} {kc ks : Nat}, mm_ok E Γ b_PT_run 4 "PlannedTables" 6 kc ks → 2 ≤ kc → 14 ≤ ks → mm_go E Γ 4 68 [(0, mm_rf E 1), (1, .int (nI F)), (2, mm_rf E (mm_n w))] [.int r] (wA w) fc 2 14 → mm_go E Γ 4 18 [(0, mm_rf E 1), (1, .int (nI F))] [] w (ltF (fE f)) 0 0) :
    mm_T E y_PT_run b_PT_run 4 (some .int) 6 3 20 [mm_rf E 1, .int (nI F)] w f k (wA w) (fE fc) := by
  refine mm_startT hfl (by decide) rfl (Nat.le_of_ble_eq_true rfl) fun Γ h hX hE he => ?_
  have hw' := wA_sh hw
  refine run_head hw hv h (by omega) (hmid h (by omega) (by omega) ?_)
  have n2 : ¬ r = 2 := by rcases hr with ⟨z, _⟩ | ⟨z, _⟩ <;> rw [z] <;> decide
  refine s_PT_run_68 (vl0 := 0) (vc0 := 0) (vs0 := 0) h hw' (wA_run hw) (fun q => absurd q n2) (by omega) (by omega) (by omega) (fun _ => c_OP_empty hw') (fun _ => ?_)
  rintro _ _ _ ⟨rfl, rfl, rfl⟩
  rcases hr with ⟨z, rfl⟩ | ⟨z, rfl⟩
  · subst z
    exact s_PT_run_81 h he (by omega) (by omega) hw' (wA_run hw) (fun q _ => absurd rfl q) (fun q _ => absurd rfl q) (fun _ => t_PT_run_86 h hX hE (by omega) (sh_n hw') (by omega) (by omega))
  · subst z
    exact s_PT_run_81 h he (by omega) (by omega) hw' (wA_run hw) (fun _ q => absurd rfl q) (fun _ _ => t_PT_run_101 h hX hE (by omega) (sh_n hw') (by omega) (by omega)) (fun q => absurd q (by decide))
end CPR
