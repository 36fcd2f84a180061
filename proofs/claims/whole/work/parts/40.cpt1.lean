/-! Contracts of the class's public methods that never throw. -/
section CPT1
variable {E : mm_E} {w : mm_W} {f : mm_F} {m len : Nat}
theorem c_PT_stage {x y : Int32} (hw : mm_sh w) : mm_C E y_PT_stage b_PT_stage 3 (some .boolean) 0 0 0 [mm_rf E 1, .int x, .int y] w f (mm_P (some (.int (bI (inb x 4)))) w (if inb x 4 = true then mm_up f 52 x.toNatClampNeg y else f)) := by
  refine mm_start (by decide) rfl (Nat.le_of_ble_eq_true rfl) fun Γ h he => ?_
  have i4 : (4 : Int32) = nI 4 := rfl
  have hin := inb_cmp (x := x) (n := 4) (by omega)
  have no : ¬ inb x 4 = true → mm_go E Γ 3 9 [(0, mm_rf E 1), (1, .int x), (2, .int y)] [] w f 0 0 := fun q => by
    refine s_PT_stage_9 h he (Nat.le_refl _) (Nat.le_refl _) hw ?_
    rw [if_neg q, Bool.eq_false_iff.mpr q]; exact mm_Pr
  refine s_PT_stage_0 h he (Nat.le_refl _) (Nat.le_refl _) hw (fun c1 => no fun z => (hin.mp z).1 c1) (fun c1 c2 => ?_) (fun c1 c2 => ?_) (fun c1 c2 => no fun z => c2 (Int32.not_le.mp (hin.mp z).2))
  · exact inb_iff.mp (hin.mpr ⟨c1, Int32.not_le.mpr c2⟩)
  · have q : inb x 4 = true := hin.mpr ⟨c1, Int32.not_le.mpr c2⟩
    rw [q, if_pos rfl]; exact mm_Pr
theorem c_PT_rows {x : Int32} (hw : mm_sh w) (hm : f 2 1 = nI m) (hm2 : m ≤ 4) : mm_C E y_PT_rows b_PT_rows 2 (some .int) 1 0 0 [mm_rf E 1, .int x] w f (mm_P (some (.int (if inb x m = true then f (4 + 12 * x.toNatClampNeg) 1 else -1))) w f) := by
  refine mm_start (by decide) rfl (Nat.le_of_ble_eq_true rfl) fun Γ h he => ?_
  refine s_PT_rows_0 (vl0 := 0) (vc0 := 0) (vs0 := 0) h hw (by omega) (by omega) (by omega) (c_TS_has hw hm hm2) ?_
  rintro _ _ _ ⟨rfl, rfl, rfl⟩
  refine s_PT_rows_8 h hw (fun q => ?_) (fun q => ?_) (fun q => ?_)
  · exact s_PT_rows_27 h he (Nat.le_refl _) (Nat.le_refl _) hw (by rw [bI_eq0 q]; exact mm_Pr)
  · obtain ⟨ex, hxl⟩ := inb_nI (bI_ne0 q) (by omega)
    rw [ex]; exact mm_inI (by omega) (by omega)
  · exact s_PT_rows_27 h he (Nat.le_refl _) (Nat.le_refl _) hw (by rw [bI_ne0 q]; exact mm_Pr)
theorem c_PT_word {x : Int32} (hw : mm_sh w) (hl : f 53 1 = nI len) (hl2 : len ≤ 40) : mm_C E y_PT_word b_PT_word 2 (some .boolean) 0 0 0 [mm_rf E 1, .int x] w f (mm_P (some (.int (if len < 40 then 1 else 0))) w (if len < 40 then mm_up (mm_up f 54 len x) 53 1 (nI (len + 1)) else f)) := by
  refine mm_start (by decide) rfl (Nat.le_of_ble_eq_true rfl) fun Γ h he => ?_
  have i40 : (40 : Int32) = nI 40 := rfl
  refine s_PT_word_0 h he (Nat.le_refl _) (Nat.le_refl _) hw (fun c => ?_) (fun c => ?_) (fun c => ?_)
  all_goals rw [hl, i40, nI_ltI (by omega) (by omega)] at c
  · rw [hl]; exact mm_inI (by omega) (by omega)
  · rw [if_pos c, if_pos c, mm_up_ne (c := 53) _ _ (by omega), hl, nI_clamp (by omega), nI_1]; exact mm_Pr
  · rw [if_neg c, if_neg c]; exact mm_Pr
theorem c_PT_clear (hw : mm_sh w) : mm_C E y_PT_clear b_PT_clear 2 (some .int) 0 0 0 [mm_rf E 1] w f (mm_P (some (.int (f 53 1))) w (mm_up f 53 1 0)) := by
  refine mm_start (by decide) rfl (Nat.le_of_ble_eq_true rfl) fun Γ h he => ?_
  exact s_PT_clear_0 h he (Nat.le_refl _) (Nat.le_refl _) hw mm_Pr
theorem c_PT_fault (hw : mm_sh w) (hl : f 53 1 = nI len) (hl2 : len ≤ 40) (hT : Tok f) : mm_C E y_PT_fault b_PT_fault 1 (some .int) 5 0 0 [mm_rf E 1] w f (mm_P (some (.int ((ltF f) 53 2))) w (ltF f)) := by
  refine mm_start (by decide) rfl (Nat.le_of_ble_eq_true rfl) fun Γ h he => ?_
  refine s_PT_fault_0 (vl0 := 4) (vc0 := 0) (vs0 := 0) h hw (by omega) (by omega) (by omega) (c_PN_lookThrough hw hl hl2 hT) ?_
  rintro _ _ _ ⟨rfl, rfl, rfl⟩
  exact s_PT_fault_11 h he (Nat.le_refl _) (Nat.le_refl _) hw mm_Pr
theorem c_PT_width (hw : mm_sh w) (hl : f 53 1 = nI len) (hl2 : len ≤ 40) (hT : Tok f) : mm_C E y_PT_width b_PT_width 1 (some .int) 5 0 0 [mm_rf E 1] w f (mm_P (some (.int (if (ltF f) 53 2 = -1 then (ltF f) 53 3 else -1))) w (ltF f)) := by
  refine mm_start (by decide) rfl (Nat.le_of_ble_eq_true rfl) fun Γ h he => ?_
  refine s_PT_width_0 (vl0 := 4) (vc0 := 0) (vs0 := 0) h hw (by omega) (by omega) (by omega) (c_PN_lookThrough hw hl hl2 hT) ?_
  rintro _ _ _ ⟨rfl, rfl, rfl⟩
  refine s_PT_width_11 h hw (fun c => ?_) (fun c => ?_)
  · exact s_PT_width_33 h he (Nat.le_refl _) (Nat.le_refl _) hw (by rw [if_neg c]; exact mm_Pr)
  · exact s_PT_width_33 h he (Nat.le_refl _) (Nat.le_refl _) hw (by rw [if_pos c]; exact mm_Pr)
theorem c_PT_visits (hw : mm_sh w) : mm_C E y_PT_visits b_PT_visits 1 (some .int) 0 0 0 [mm_rf E 1] w f (mm_P (some (.int (f 1 4))) w f) := by
  refine mm_start (by decide) rfl (Nat.le_of_ble_eq_true rfl) fun Γ h he => ?_
  exact s_PT_visits_0 h he (Nat.le_refl _) (Nat.le_refl _) hw mm_Pr
theorem c_PT_size (hw : mm_sh w) : mm_C E y_PT_size b_PT_size 1 (some .int) 0 0 0 [mm_rf E 1] w f (mm_P (some (.int (f 134 1))) w f) := by
  refine mm_start (by decide) rfl (Nat.le_of_ble_eq_true rfl) fun Γ h he => ?_
  exact s_PT_size_0 h he (Nat.le_refl _) (Nat.le_refl _) hw mm_Pr
theorem c_PT_out {x : Int32} {u : Nat} (hw : mm_sh w) (hu : f 134 1 = nI u) (hu2 : u ≤ 64) : mm_C E y_PT_out b_PT_out 2 (some .int) 0 0 0 [mm_rf E 1, .int x] w f (mm_P (some (.int (if inb x u = true then f 135 x.toNatClampNeg else 0))) w f) := by
  refine mm_start (by decide) rfl (Nat.le_of_ble_eq_true rfl) fun Γ h he => ?_
  have hin := inb_cmp (x := x) (n := u) (by omega)
  have no : ¬ inb x u = true → mm_go E Γ 2 27 [(0, mm_rf E 1), (1, .int x)] [] w f 0 0 := fun q => by
    refine s_PT_out_27 h hw (s_PT_out_28 h he (Nat.le_refl _) (Nat.le_refl _) hw ?_)
    rw [if_neg q]; exact mm_Pr
  refine s_PT_out_0 h hw (fun c1 => no fun z => (hin.mp z).1 c1) (fun c1 c2 => no fun z => (hin.mp z).2 (by rw [← hu]; exact c2)) (fun c1 c2 => ?_) (fun c1 c2 => ?_)
  all_goals (rw [hu] at c2; have q : inb x u = true := hin.mpr ⟨c1, c2⟩)
  · obtain ⟨ex, hxl⟩ := inb_nI q (by omega)
    rw [ex]; exact mm_inI (by omega) (by omega)
  · exact s_PT_out_28 h he (Nat.le_refl _) (Nat.le_refl _) hw (by rw [if_pos q]; exact mm_Pr)
end CPT1
