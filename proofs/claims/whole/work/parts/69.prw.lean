/-! Pure: the rows of class and reference that are under way. -/
def rowA (f g : mm_F) (n v : Nat) : Prop := ∀ j, j < v → f (n + 1) j = g 146 j
theorem pick_row {f g : mm_F} {n s p k v : Nat} (h : rowA f g n v) (hv : v ≤ 8) (ha : g 144 s = nI (p + 1)) (hp : p ≤ 100) (hk : g 142 (p + 1) = nI k) (hk2 : k ≤ 8) (hw : ∀ j, j < k → ∃ c, c < v ∧ f 54 (p + 2 + j) = nI c ∧ g 142 (p + 2 + j) = nI c) : rowA (piF f n s p k) (chF g s) n k ∧ (chF g s) 136 20 = nI k := by
  have pa : pA g s = p + 1 := by unfold pA; rw [ha, nI_clamp (by omega)]
  have p0 : pw g s 0 = nI k := by unfold pw; rw [pa]; exact hk
  have hx : chF g s = mm_up (chR (chL g s 8) s k) 136 20 (nI k) := by
    unfold chF
    rw [p0, nI_clamp (by omega)]
  refine ⟨fun j hj => ?_, by rw [hx, mm_up_eq]⟩
  obtain ⟨c, c1, c2, c3⟩ := hw j hj
  have e1 : (piF f n s p k) (n + 1) j = f (n + 1) c := by
    unfold piF cpC
    rw [if_pos ⟨rfl, hj⟩]
    unfold pcF
    rw [if_pos ⟨rfl, hj⟩, c2, nI_clamp (by omega)]
  have e2 : pw (chL g s 8) s (1 + j) = nI c := by
    rw [pw_of (f := g) (chL_off _ (by omega)) (chL_off _ (by omega))]
    unfold pw
    rw [pa, show p + 1 + (1 + j) = p + 2 + j by omega]; exact c3
  rw [e1, hx, mm_up_ne _ _ (by omega)]
  show _ = (chR (chL g s 8) s k) 146 j
  unfold chR
  rw [if_pos ⟨rfl, hj⟩, e2, nI_clamp (by omega)]
  show _ = (chL g s 8) 150 (8 * s + c)
  unfold chL
  rw [if_pos ⟨rfl, by omega, by omega⟩, show 8 * s + c - 8 * s = c by omega]
  exact h c c1
theorem wk_row {f : mm_F} {n s t cols wb q : Nat} (hn : 153 ≤ n) (hs : s < 39) (ht : t < 4) (hc : cols ≤ 4) {j : Nat} (hj : j < wb + cols) : (wkF f n s t cols wb q) (n + 1) j = if j < wb then f (57 + 2 * s) j else tc f t (j - wb) q := by
  unfold wkF
  rw [mm_up_ne _ _ (by omega)]
  unfold cpR
  by_cases z : j < wb
  · rw [if_neg (by omega), if_pos z]
    unfold cpC
    rw [if_pos ⟨rfl, z⟩, mm_up_ne _ _ (by omega)]
  · rw [if_pos ⟨rfl, by omega, by omega⟩, if_neg z]
    show (cpC (mm_up f n 4 (f n 4 + 1)) (57 + 2 * s) (n + 1) wb) (7 + 12 * t + (j - wb)) q = f (7 + 12 * t + (j - wb)) q
    unfold cpC
    rw [if_neg (by omega), mm_up_ne _ _ (by omega)]
theorem lo_row {g : mm_F} {r fr k j : Nat} (hj : j < fr + k) : (loF g r fr k) 146 j = if j < fr then g 146 j else g 141 (4 * r + (j - fr)) := by
  unfold loF
  rw [mm_up_ne _ _ (by omega)]
  unfold loL
  by_cases z : j < fr
  · rw [if_neg (by omega), if_pos z]
  · rw [if_pos ⟨rfl, by omega, by omega⟩, if_neg z]
/-- a row of a source -/
theorem source_row {f g : mm_F} {n s t cols q r : Nat} (hn : 153 ≤ n) (hs : s < 39) (ht : t < 4) (hc : cols ≤ 4) (h : ∀ c, c < cols → g 141 (4 * r + c) = tc f t c q) : rowA (wkF f n s t cols 0 q) (loF g r 0 cols) n cols ∧ (loF g r 0 cols) 136 20 = nI cols := by
  refine ⟨fun j hj => ?_, by unfold loF; rw [mm_up_eq, Nat.zero_add]⟩
  rw [wk_row hn hs ht hc (by omega), lo_row (by omega), if_neg (by omega), if_neg (by omega), Nat.sub_zero]
  exact (h j hj).symm
/-- a row of a join: the kept row, then the table's -/
theorem join_row {f g : mm_F} {n s t cols v q r : Nat} (hn : 153 ≤ n) (hs : s < 39) (ht : t < 4) (hc : cols ≤ 4) (hv : v ≤ 8) (h5 : g 145 s = nI v) (hp : pw g s 0 = nI t) (h7 : g 137 t = nI cols) (hk : ∀ j, j < v → f (57 + 2 * s) j = g 150 (8 * s + j)) (h : ∀ c, c < cols → g 141 (4 * r + c) = tc f t c q) : rowA (wkF f n s t cols v q) (foG g s r) n (v + cols) ∧ (foG g s r) 136 20 = nI (v + cols) := by
  have e : foG g s r = loF (foL g s v) r v cols := by
    unfold foG
    rw [h5, hp, nI_clamp (by omega), nI_clamp (by omega), h7, nI_clamp (by omega)]
  rw [e]
  refine ⟨fun j hj => ?_, by unfold loF; rw [mm_up_eq]⟩
  rw [wk_row hn hs ht hc hj, lo_row hj]
  by_cases z : j < v
  · rw [if_pos z, if_pos z, hk j z]
    unfold foL
    rw [if_pos ⟨rfl, z⟩]
  · rw [if_neg z, if_neg z, foL_off _ (by omega)]
    exact (h (j - v) (by omega)).symm
