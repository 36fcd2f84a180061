/-! Pure: the outputs of class and reference. -/
def outA (f g : mm_F) (u : Nat) : Prop := f 134 1 = nI u ∧ g 136 30 = nI u ∧ u ≤ 64 ∧ ∀ j, j < u → f 135 j = g 151 j
theorem out_add {f g : mm_F} {n u k : Nat} {x : Int32} (h : outA f g u) (hr : rowA f g n k) (hn : 153 ≤ n) (hc : g 136 20 = nI k) (hk : k ≤ 8) (hu : u + k ≤ 64) : outA (mm_up (mm_up (ocp f (n + 1) u k) 134 1 (nI (u + k))) 134 2 x) (ouF g) (u + k) ∧ (ouF g) 136 19 = 0 := by
  obtain ⟨h1, h2, h3, h4⟩ := h
  have i64 : (64 : Int32) = nI 64 := rfl
  have e : ouF g = mm_up (ouL (mm_up g 136 19 0) u k) 136 30 (nI (u + k)) := by
    unfold ouF
    rw [if_pos (by rw [h2, hc, nI_add, i64, nI_leI (by omega) (by omega)]; exact hu), h2, hc, nI_clamp (by omega), nI_clamp (by omega), nI_add]
  rw [e]
  refine ⟨⟨by rw [mm_up_ne _ _ (by omega), mm_up_eq], mm_up_eq _ _ _ _, hu, fun j hj => ?_⟩, by rw [mm_up_ne _ _ (by omega), ouL_off _ (by omega), mm_up_eq]⟩
  rw [mm_up_ne _ _ (by omega), mm_up_ne _ _ (by omega), mm_up_ne _ _ (by omega)]
  unfold ocp ouL
  by_cases z : j < u
  · rw [if_neg (by omega), if_neg (by omega), mm_up_ne _ _ (by omega)]; exact h4 j z
  · rw [if_pos ⟨rfl, by omega, by omega⟩, if_pos ⟨rfl, by omega, by omega⟩, mm_up_ne _ _ (by omega)]
    exact hr (j - u) (by omega)
theorem out_full {f g : mm_F} {u k : Nat} (h : outA f g u) (hc : g 136 20 = nI k) (hk : k ≤ 8) (hu : ¬ u + k ≤ 64) : (ouF g) 136 19 = 1 ∧ (ouF g) 136 30 = nI u := by
  obtain ⟨h1, h2, h3, h4⟩ := h
  have i64 : (64 : Int32) = nI 64 := rfl
  unfold ouF
  rw [if_neg (by rw [h2, hc, nI_add, i64, nI_leI (by omega) (by omega)]; exact hu)]
  exact ⟨by rw [mm_up_ne _ _ (by omega), mm_up_eq], by rw [mm_up_eq]; exact h2⟩
