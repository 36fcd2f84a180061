/-! Contracts of the class's public methods that may throw: delete, cell, keyFrom. -/
section CPT3
variable {E : mm_E} {w : mm_W} {f : mm_F} {m R W : Nat} {n cl : Nat → Nat}
theorem Iv.inb {t : Nat} (hv : Iv f m R W n cl) (ht : t < m) : inb (nI t) m = true := inb_iff.mpr (nI_in ht (by have := hv.1.2.1; omega))
theorem Iv.slot {t : Nat} (hv : Iv f m R W n cl) (ht : t < m) (key : Int32) : (∃ s, s < n t ∧ tc f t 0 s = key ∧ tb_slot f t (n t) key = nI s) ∨ tb_slot f t (n t) key = -1 := by
  obtain ⟨L, hL⟩ := hv.L ht
  obtain ⟨k1, k2, k3, k4, k5, k6⟩ := hv.cnt ht
  rcases (hL 0 (by omega)).slot k2 key with z | ⟨_, z⟩
  · exact Or.inl z
  · exact Or.inr z
theorem c_PT_delete_1 {x y : Int32} (hfl : E.1.flags = flags0) (hw : mm_sh w) (hv : Iv f m R W n cl) (hx : ¬ inb x m = true) : mm_T E y_PT_delete b_PT_delete 4 (some .int) 6 1 6 [mm_rf E 1, .int x, .int y] w f 10 w f := by
  refine mm_startT hfl (by decide) rfl (Nat.le_of_ble_eq_true rfl) fun Γ h hX hE he => ?_
  refine s_PT_delete_0 (vl0 := 0) (vc0 := 0) (vs0 := 0) h hw (by omega) (by omega) (by omega) (c_TS_has hw hv.1.1 hv.1.2.1) ?_
  rintro _ _ _ ⟨rfl, rfl, rfl⟩
  have z : ¬ ¬ bI (inb x m) = 0 := fun z => hx (bI_n0 z)
  exact s_PT_delete_8 (vl0 := 0) (vc0 := 0) (vs0 := 0) (P0 := fun _ _ _ => False) h hw (fun y => absurd y z) (by omega) (by omega) (by omega) (fun y => absurd y z) (fun y => absurd y z) (fun _ => t_PT_delete_11 h hX hE (by omega) (sh_n hw) (by omega) (by omega))
theorem c_PT_delete_2 {t : Nat} {key : Int32} (hfl : E.1.flags = flags0) (hw : mm_sh w) (hv : Iv f m R W n cl) (ht : t < m) (hk : tb_slot f t (n t) key = -1) : mm_T E y_PT_delete b_PT_delete 4 (some .int) 6 1 6 [mm_rf E 1, .int (nI t), .int key] w f 12 w f := by
  refine mm_startT hfl (by decide) rfl (Nat.le_of_ble_eq_true rfl) fun Γ h hX hE he => ?_
  obtain ⟨k1, k2, k3, k4, k5, k6⟩ := hv.cnt ht
  have hin := hv.inb ht
  refine s_PT_delete_0 (vl0 := 0) (vc0 := 0) (vs0 := 0) h hw (by omega) (by omega) (by omega) (c_TS_has hw hv.1.1 hv.1.2.1) ?_
  rintro _ _ _ ⟨rfl, rfl, rfl⟩
  refine s_PT_delete_8 (vl0 := 2) (vc0 := 0) (vs0 := 0) h hw (fun _ => inb4 hin hv.1.2.1) (by omega) (by omega) (by omega) (fun _ => by rw [nI_clamp (by omega)]; exact c_TB_slotOf hw k6 k1 k2 (hv.up ht k5)) (fun _ => ?_) (fun q => absurd hin (bI_0 q))
  rintro _ _ _ ⟨rfl, rfl, rfl⟩
  exact s_PT_delete_34 (vl0 := 0) (vc0 := 0) (vs0 := 0) (P0 := fun _ _ _ => False) h hw (fun q => absurd hk q) (by omega) (by omega) (by omega) (fun q => absurd hk q) (fun q => absurd hk q) (fun _ => t_PT_delete_40 h hX hE (by omega) (sh_n hw) (by omega) (by omega))
theorem c_PT_delete_0 {t s : Nat} {key : Int32} (hw : mm_sh w) (hv : Iv f m R W n cl) (ht : t < m) (hs : s < n t) (hk : tb_slot f t (n t) key = nI s) : mm_C E y_PT_delete b_PT_delete 4 (some .int) 3 0 0 [mm_rf E 1, .int (nI t), .int key] w f (fun r w' f' => r = some (.int (nI (n t - 1))) ∧ w' = w ∧ f' 136 = f 136 ∧ (mdF f' m R (nI t) key).2 = nI (n t - 1) ∧ (mdF f' m R (nI t) key).1 136 0 = 0 ∧ IV (mdF f' m R (nI t) key).1) := by
  refine mm_start (by decide) rfl (Nat.le_of_ble_eq_true rfl) fun Γ h he => ?_
  obtain ⟨k1, k2, k3, k4, k5, k6⟩ := hv.cnt ht
  obtain ⟨L, hL⟩ := hv.L ht
  have hin := hv.inb ht
  have n1 : ¬ nI s = -1 := neg1_ne (by omega)
  refine s_PT_delete_0 (vl0 := 0) (vc0 := 0) (vs0 := 0) h hw (by omega) (by omega) (by omega) (c_TS_has hw hv.1.1 hv.1.2.1) ?_
  rintro _ _ _ ⟨rfl, rfl, rfl⟩
  refine s_PT_delete_8 (vl0 := 2) (vc0 := 0) (vs0 := 0) h hw (fun _ => inb4 hin hv.1.2.1) (by omega) (by omega) (by omega) (fun _ => by rw [nI_clamp (by omega)]; exact c_TB_slotOf hw k6 k1 k2 (hv.up ht k5)) (fun _ => ?_) (fun q => absurd hin (bI_0 q))
  rintro _ _ _ ⟨rfl, rfl, rfl⟩
  rw [hk]
  refine s_PT_delete_34 (vl0 := 1) (vc0 := 0) (vs0 := 0) h hw (fun _ => inb4 hin hv.1.2.1) (by omega) (by omega) (by omega) (fun _ => by rw [nI_clamp (by omega)]; exact c_TB_remove (L := L) hw k6 k3 k4 k1 k2 hs (fun c hc => ⟨(hL c hc).1, (hL c hc).2.1, fun x hx => by have := ((hL c hc).2.2.1 x).mp hx; omega⟩)) (fun _ => ?_) (fun y => absurd y n1)
  rintro _ w1 f1 ⟨rfl, rfl, g1, g2, g3, g4, g5⟩
  refine s_PT_delete_63 h he (Nat.le_refl _) (Nat.le_refl _) hw (inb4 hin hv.1.2.1) ⟨?_, rfl, g1 136 (by have := hv.1.2.1; omega) (fun c hc => by have := hv.1.2.1; have := (hv.1.2.2.1 t ht).2.2.1; omega), hv.del_0 ht hs hk hL g1 g2 g3 g4 g5⟩
  rw [nI_clamp (by omega), g2]
theorem c_PT_cell_1 {x key y : Int32} (hfl : E.1.flags = flags0) (hw : mm_sh w) (hv : Iv f m R W n cl) (hx : ¬ (inb x m = true ∧ inb y (cl x.toNatClampNeg) = true)) : mm_T E y_PT_cell b_PT_cell 5 (some .int) 6 1 6 [mm_rf E 1, .int x, .int key, .int y] w f 10 w f := by
  refine mm_startT hfl (by decide) rfl (Nat.le_of_ble_eq_true rfl) fun Γ h hX hE he => ?_
  have m4 := hv.1.2.1
  have t := t_PT_cell_27 (ca := 0) (sa := 0) (lv := [(0, mm_rf E 1), (1, .int x), (2, .int key), (3, .int y)]) h hX hE (by omega) (sh_n hw) (by omega) (by omega)
  refine s_PT_cell_0 (vl0 := 0) (vc0 := 0) (vs0 := 0) h hw (by omega) (by omega) (by omega) (c_TS_has hw hv.1.1 m4) ?_
  rintro _ _ _ ⟨rfl, rfl, rfl⟩
  by_cases q : inb x m = true
  · obtain ⟨u, t1, t2, t3⟩ := inb_at q (by omega)
    have c4 := (hv.1.2.2.1 u t1).2.2.1
    refine s_PT_cell_8 (vl0 := 0) (vc0 := 0) (vs0 := 0) h hw (fun _ => t) (fun _ => inb4 q m4) (by omega) (by omega) (by omega) (fun _ => by rw [t3]; exact c_TB_hasColumn hw (by omega) (hv.1.2.2.1 u t1).1 c4) (fun _ => ?_)
    rintro _ _ _ ⟨rfl, rfl, rfl⟩
    have z : ¬ ¬ bI (inb y (cl u)) = 0 := fun z => hx ⟨q, by rw [t3]; exact bI_n0 z⟩
    exact s_PT_cell_24 (vl0 := 0) (vc0 := 0) (vs0 := 0) (P0 := fun _ _ _ => False) h hw (fun y => absurd y z) (by omega) (by omega) (by omega) (fun y => absurd y z) (fun y => absurd y z) (fun _ => t)
  · have z : ¬ ¬ bI (inb x m) = 0 := fun z => q (bI_n0 z)
    exact s_PT_cell_8 (vl0 := 0) (vc0 := 0) (vs0 := 0) (P0 := fun _ _ _ => False) h hw (fun _ => t) (fun y => absurd y z) (by omega) (by omega) (by omega) (fun y => absurd y z) (fun y => absurd y z)
theorem c_PT_cell_2 {t : Nat} {key y : Int32} (hfl : E.1.flags = flags0) (hw : mm_sh w) (hv : Iv f m R W n cl) (ht : t < m) (hy : inb y (cl t) = true) (hk : tb_slot f t (n t) key = -1) : mm_T E y_PT_cell b_PT_cell 5 (some .int) 6 1 6 [mm_rf E 1, .int (nI t), .int key, .int y] w f 12 w f := by
  refine mm_startT hfl (by decide) rfl (Nat.le_of_ble_eq_true rfl) fun Γ h hX hE he => ?_
  obtain ⟨k1, k2, k3, k4, k5, k6⟩ := hv.cnt ht
  have hin := hv.inb ht
  refine s_PT_cell_0 (vl0 := 0) (vc0 := 0) (vs0 := 0) h hw (by omega) (by omega) (by omega) (c_TS_has hw hv.1.1 hv.1.2.1) ?_
  rintro _ _ _ ⟨rfl, rfl, rfl⟩
  refine s_PT_cell_8 (vl0 := 0) (vc0 := 0) (vs0 := 0) h hw (fun q => absurd hin (bI_0 q)) (fun _ => inb4 hin hv.1.2.1) (by omega) (by omega) (by omega) (fun _ => by rw [nI_clamp (by omega)]; exact c_TB_hasColumn hw k6 k3 k4) (fun _ => ?_)
  rintro _ _ _ ⟨rfl, rfl, rfl⟩
  refine s_PT_cell_24 (vl0 := 2) (vc0 := 0) (vs0 := 0) h hw (fun _ => inb4 hin hv.1.2.1) (by omega) (by omega) (by omega) (fun _ => by rw [nI_clamp (by omega)]; exact c_TB_slotOf hw k6 k1 k2 (hv.up ht k5)) (fun _ => ?_) (fun q => absurd hy (bI_0 q))
  rintro _ _ _ ⟨rfl, rfl, rfl⟩
  exact s_PT_cell_50 h he (by omega) (by omega) hw (fun q => absurd hk q) (fun q => absurd hk q) (fun q => absurd hk q) (fun q => absurd hk q) (fun _ => t_PT_cell_58 h hX hE (by omega) (sh_n hw) (by omega) (by omega))
theorem c_PT_cell_0 {t d s : Nat} {key : Int32} (hw : mm_sh w) (hv : Iv f m R W n cl) (ht : t < m) (hd : d < cl t) (hs : s < n t) (hk : tb_slot f t (n t) key = nI s) : mm_C E y_PT_cell b_PT_cell 5 (some .int) 3 0 0 [mm_rf E 1, .int (nI t), .int key, .int (nI d)] w f (mm_P (some (.int (tc f t d s))) w f) := by
  refine mm_start (by decide) rfl (Nat.le_of_ble_eq_true rfl) fun Γ h he => ?_
  obtain ⟨k1, k2, k3, k4, k5, k6⟩ := hv.cnt ht
  have hin := hv.inb ht
  have hy : inb (nI d) (cl t) = true := inb_iff.mpr (nI_in hd (by omega))
  refine s_PT_cell_0 (vl0 := 0) (vc0 := 0) (vs0 := 0) h hw (by omega) (by omega) (by omega) (c_TS_has hw hv.1.1 hv.1.2.1) ?_
  rintro _ _ _ ⟨rfl, rfl, rfl⟩
  refine s_PT_cell_8 (vl0 := 0) (vc0 := 0) (vs0 := 0) h hw (fun q => absurd hin (bI_0 q)) (fun _ => inb4 hin hv.1.2.1) (by omega) (by omega) (by omega) (fun _ => by rw [nI_clamp (by omega)]; exact c_TB_hasColumn hw k6 k3 k4) (fun _ => ?_)
  rintro _ _ _ ⟨rfl, rfl, rfl⟩
  refine s_PT_cell_24 (vl0 := 2) (vc0 := 0) (vs0 := 0) h hw (fun _ => inb4 hin hv.1.2.1) (by omega) (by omega) (by omega) (fun _ => by rw [nI_clamp (by omega)]; exact c_TB_slotOf hw k6 k1 k2 (hv.up ht k5)) (fun _ => ?_) (fun q => absurd hy (bI_0 q))
  rintro _ _ _ ⟨rfl, rfl, rfl⟩
  rw [hk]
  refine s_PT_cell_50 h he (Nat.le_refl _) (Nat.le_refl _) hw (fun _ => inb4 hin hv.1.2.1) (fun _ => inb4 hy k4) (fun _ => mm_inI (by omega) (by omega)) (fun _ => ?_) (fun q => absurd q (neg1_ne (by omega)))
  rw [nI_clamp (by omega), nI_clamp (by omega), nI_clamp (by omega)]
  exact mm_Pr
theorem c_PT_keyFrom_1 {x y : Int32} (hfl : E.1.flags = flags0) (hw : mm_sh w) (hv : Iv f m R W n cl) (hx : ¬ inb x m = true) : mm_T E y_PT_keyFrom b_PT_keyFrom 4 (some .int) 6 1 6 [mm_rf E 1, .int x, .int y] w f 10 w f := by
  refine mm_startT hfl (by decide) rfl (Nat.le_of_ble_eq_true rfl) fun Γ h hX hE he => ?_
  refine s_PT_keyFrom_0 (vl0 := 0) (vc0 := 0) (vs0 := 0) h hw (by omega) (by omega) (by omega) (c_TS_has hw hv.1.1 hv.1.2.1) ?_
  rintro _ _ _ ⟨rfl, rfl, rfl⟩
  have z : ¬ ¬ bI (inb x m) = 0 := fun z => hx (bI_n0 z)
  exact s_PT_keyFrom_8 (vl0 := 0) (vc0 := 0) (vs0 := 0) (P0 := fun _ _ _ => False) h hw (fun y => absurd y z) (by omega) (by omega) (by omega) (fun y => absurd y z) (fun y => absurd y z) (fun _ => t_PT_keyFrom_11 h hX hE (by omega) (sh_n hw) (by omega) (by omega))
theorem c_PT_keyFrom_2 {t : Nat} {low : Int32} (hfl : E.1.flags = flags0) (hw : mm_sh w) (hv : Iv f m R W n cl) (ht : t < m) (hk : ¬ tb_below f t 0 (n t) low < n t) : mm_T E y_PT_keyFrom b_PT_keyFrom 4 (some .int) 6 1 6 [mm_rf E 1, .int (nI t), .int low] w f 12 w f := by
  refine mm_startT hfl (by decide) rfl (Nat.le_of_ble_eq_true rfl) fun Γ h hX hE he => ?_
  obtain ⟨k1, k2, k3, k4, k5, k6⟩ := hv.cnt ht
  have hin := hv.inb ht
  have hle := tb_below_le f t 0 (n t) low
  refine s_PT_keyFrom_0 (vl0 := 0) (vc0 := 0) (vs0 := 0) h hw (by omega) (by omega) (by omega) (c_TS_has hw hv.1.1 hv.1.2.1) ?_
  rintro _ _ _ ⟨rfl, rfl, rfl⟩
  refine s_PT_keyFrom_8 (vl0 := 1) (vc0 := 0) (vs0 := 0) h hw (fun _ => inb4 hin hv.1.2.1) (by omega) (by omega) (by omega) (fun _ => by rw [nI_clamp (by omega)]; exact c_TB_placeFrom (c := 0) hw k6 (by omega) k1 k2 (hv.up ht k5)) (fun _ => ?_) (fun q => absurd hin (bI_0 q))
  rintro _ _ _ ⟨rfl, rfl, rfl⟩
  have z : ¬ nI (tb_below f t 0 (n t) low) < f (4 + 12 * (nI t).toNatClampNeg) 1 := by rw [nI_clamp (by omega), k1, nI_ltI (by omega) (by omega)]; exact hk
  exact s_PT_keyFrom_35 (vl0 := 0) (vc0 := 0) (vs0 := 0) (P0 := fun _ _ _ => False) h hw (inb4 hin hv.1.2.1) (by omega) (by omega) (by omega) (fun q => absurd q z) (fun q => absurd q z) (fun _ => t_PT_keyFrom_52 h hX hE (by omega) (sh_n hw) (by omega) (by omega))
theorem c_PT_keyFrom_0 {t : Nat} {low : Int32} (hw : mm_sh w) (hv : Iv f m R W n cl) (ht : t < m) (hk : tb_below f t 0 (n t) low < n t) : mm_C E y_PT_keyFrom b_PT_keyFrom 4 (some .int) 2 0 0 [mm_rf E 1, .int (nI t), .int low] w f (mm_P (some (.int (tp f t 0 (tb_below f t 0 (n t) low)))) w f) := by
  refine mm_start (by decide) rfl (Nat.le_of_ble_eq_true rfl) fun Γ h he => ?_
  obtain ⟨k1, k2, k3, k4, k5, k6⟩ := hv.cnt ht
  have hin := hv.inb ht
  refine s_PT_keyFrom_0 (vl0 := 0) (vc0 := 0) (vs0 := 0) h hw (by omega) (by omega) (by omega) (c_TS_has hw hv.1.1 hv.1.2.1) ?_
  rintro _ _ _ ⟨rfl, rfl, rfl⟩
  refine s_PT_keyFrom_8 (vl0 := 1) (vc0 := 0) (vs0 := 0) h hw (fun _ => inb4 hin hv.1.2.1) (by omega) (by omega) (by omega) (fun _ => by rw [nI_clamp (by omega)]; exact c_TB_placeFrom (c := 0) hw k6 (by omega) k1 k2 (hv.up ht k5)) (fun _ => ?_) (fun q => absurd hin (bI_0 q))
  rintro _ _ _ ⟨rfl, rfl, rfl⟩
  have z : nI (tb_below f t 0 (n t) low) < f (4 + 12 * (nI t).toNatClampNeg) 1 := by rw [nI_clamp (by omega), k1, nI_ltI (by omega) (by omega)]; exact hk
  obtain ⟨q, q1, q2⟩ := (hv.up ht k5).1 _ hk
  refine s_PT_keyFrom_35 (vl0 := 0) (vc0 := 0) (vs0 := 0) h hw (inb4 hin hv.1.2.1) (by omega) (by omega) (by omega) (fun _ => by rw [nI_clamp (n := t) (by omega)]; exact c_TB_cellAt (c := 0) hw k6 (by omega) (by omega) q2 q1) (fun _ => ?_) (fun y => absurd z y)
  rintro _ _ _ ⟨rfl, rfl, rfl⟩
  refine s_PT_keyFrom_76 h he (Nat.le_refl _) (Nat.le_refl _) hw ⟨?_, rfl, rfl⟩
  show some (Value.int (tc f t 0 (to f t 0 (tb_below f t 0 (n t) low)).toNatClampNeg)) = _
  rw [q2, nI_clamp (by omega)]
end CPT3
