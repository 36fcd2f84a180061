/-! Pure: the rows of class and reference that are under way. -/
def rowA (f g : mm_F) (n v : Nat) : Prop := ∀ j, j < v → f (n + 1) j = g 146 j
theorem pick_row {f g : mm_F} {n s p k v : Nat} (h : rowA f g n v) (hv : v ≤ 8) (ha : g 144 s = nI (p + 1)) (hp : p ≤ 100) (hk : g 142 (p + 1) = nI k) (hk2 : k ≤ 8) (hw : ∀ j, j < k → ∃ c, c < v ∧ f 54 (p + 2 + j) = nI c ∧ g 142 (p + 2 + j) = nI c) : rowA (piF f n s p k) (chF g s) n k ∧ (chF g s) 136 20 = nI k := by
  have pa : pA g s = p + 1 := by unfold pA; rw [ha, nI_clamp (by omega)]
  have p0 : pw g s 0 = nI k := by unfold pw; rw [pa]; exact hk
  have hx : chF g s = mm_up (chR (chL g s 8) s k) 136 20 (nI k) := by
    unfold chF
    rw [p0, nI_clamp (by omega)]
  refine ⟨fun j hj => ?_, by rw [hx, mm_up_eq]⟩
  obtain ⟨c, c1, c2, c3⟩ := hw j hj
  have e1 : (piF f n s p k) (n + 1) j = f (n + 1) c := by
    unfold piF cpC
    rw [if_pos ⟨rfl, hj⟩]
    unfold pcF
    rw [if_pos ⟨rfl, hj⟩, c2, nI_clamp (by omega)]
  have e2 : pw (chL g s 8) s (1 + j) = nI c := by
    rw [pw_of (f := g) (chL_off _ (by omega)) (chL_off _ (by omega))]
    unfold pw
    rw [pa, show p + 1 + (1 + j) = p + 2 + j by omega]; exact c3
  rw [e1, hx, mm_up_ne _ _ (by omega)]
  show _ = (chR (chL g s 8) s k) 146 j
  unfold chR
  rw [if_pos ⟨rfl, hj⟩, e2, nI_clamp (by omega)]
  show _ = (chL g s 8) 150 (8 * s + c)
  unfold chL
  rw [if_pos ⟨rfl, by omega, by omega⟩, show 8 * s + c - 8 * s = c by omega]
  exact h c c1
