/-! Contracts of the class's public methods that may throw, run apart. -/
section CPT2
variable {E : mm_E} {w : mm_W} {f : mm_F} {m R W : Nat} {n cl : Nat → Nat}
theorem sh_n (hw : mm_sh w) : 0 < mm_n w := by have := hw.1; omega
theorem nI_lt4 {m : Nat} (h : m ≤ 4) : nI m < 4 ↔ m < 4 := nI_ltI (b := 4) (by omega) (by omega)
theorem c_PT_table_0 {x : Int32} (hw : mm_sh w) (hv : Iv f m R W n cl) (hx : ¬ (x < 1 ∨ ¬ x ≤ 4)) (hm : ¬ m = 4) : mm_C E y_PT_table b_PT_table 2 (some .int) 1 0 0 [mm_rf E 1, .int x] w f (mm_P (some (.int (nI m))) w (mm_up (mm_up (mm_up f (4 + 12 * m) 0 x) (5 + 12 * m) 0 1) 2 1 (nI (m + 1)))) := by
  refine mm_start (by decide) rfl (Nat.le_of_ble_eq_true rfl) fun Γ h he => ?_
  have m4 := hv.1.2.1
  refine s_PT_table_0 (vl0 := 0) (vc0 := 0) (vs0 := 0) h hw (fun q => absurd (Or.inl q) hx) (by omega) (by omega) (by omega) (fun _ _ _ => c_TS_make hw hv.1.1 (by omega)) (fun _ _ _ => ?_) (fun _ _ q => ?_) (fun _ q => absurd (Or.inr q) hx)
  · rintro _ _ _ ⟨rfl, rfl, rfl⟩
    exact s_PT_table_49 h he (Nat.le_refl _) (Nat.le_refl _) hw mm_Pr
  · rw [hv.1.1, nI_lt4 m4] at q; omega
theorem c_PT_table_1 {x : Int32} (hfl : E.1.flags = flags0) (hw : mm_sh w) (hx : x < 1 ∨ ¬ x ≤ 4) : mm_T E y_PT_table b_PT_table 2 (some .int) 6 1 6 [mm_rf E 1, .int x] w f 8 w f := by
  refine mm_startT hfl (by decide) rfl (Nat.le_of_ble_eq_true rfl) fun Γ h hX hE he => ?_
  have t := t_PT_table_10 (ca := 0) (sa := 0) (lv := [(0, mm_rf E 1), (1, .int x)]) h hX hE (by omega) (sh_n hw) (by omega) (by omega)
  exact s_PT_table_0 (vl0 := 0) (vc0 := 0) (vs0 := 0) (P0 := fun _ _ _ => False) h hw (fun _ => t) (by omega) (by omega) (by omega) (fun q1 q2 => absurd hx (by rintro (z | z); exact q1 z; exact z q2)) (fun q1 q2 => absurd hx (by rintro (z | z); exact q1 z; exact z q2)) (fun q1 q2 => absurd hx (by rintro (z | z); exact q1 z; exact z q2)) (fun _ _ => t)
theorem c_PT_table_2 {x : Int32} (hfl : E.1.flags = flags0) (hw : mm_sh w) (hv : Iv f m R W n cl) (hx : ¬ (x < 1 ∨ ¬ x ≤ 4)) (hm : m = 4) : mm_T E y_PT_table b_PT_table 2 (some .int) 6 1 6 [mm_rf E 1, .int x] w f 9 w f := by
  refine mm_startT hfl (by decide) rfl (Nat.le_of_ble_eq_true rfl) fun Γ h hX hE he => ?_
  have n4 : ¬ f 2 1 < 4 := by rw [hv.1.1, nI_lt4 hv.1.2.1]; omega
  exact s_PT_table_0 (vl0 := 0) (vc0 := 0) (vs0 := 0) (P0 := fun _ _ _ => False) h hw (fun q => absurd (Or.inl q) hx) (by omega) (by omega) (by omega) (fun _ _ q => absurd q n4) (fun _ _ q => absurd q n4) (fun _ _ _ => t_PT_table_31 h hX hE (by omega) (sh_n hw) (by omega) (by omega)) (fun _ q => absurd (Or.inr q) hx)
theorem bI_0 {b : Bool} (h : bI b = 0) : ¬ b = true := fun z => by rw [z] at h; exact absurd h (by decide)
theorem bI_n0 {b : Bool} (h : ¬ bI b = 0) : b = true := by
  cases b with
  | true => rfl
  | false => exact absurd rfl h
theorem inb4 {x : Int32} {m : Nat} (h : inb x m = true) (hm : m ≤ 4) : vp_in x 4 := by
  obtain ⟨t, h1, h2, _⟩ := inb_at h (by omega)
  rw [h2]; exact mm_inI (by omega) (by omega)
theorem c_PT_index_0 {x y : Int32} (hw : mm_sh w) (hv : Iv f m R W n cl) (hx : inb x m = true ∧ inb y (cl x.toNatClampNeg) = true) : mm_C E y_PT_index b_PT_index 4 (some .boolean) 1 0 0 [mm_rf E 1, .int x, .int y] w f (mm_P (some (.int (if f (5 + 12 * x.toNatClampNeg) y.toNatClampNeg = 0 then 1 else 0))) w (mm_up f (5 + 12 * x.toNatClampNeg) y.toNatClampNeg 1)) := by
  refine mm_start (by decide) rfl (Nat.le_of_ble_eq_true rfl) fun Γ h he => ?_
  have m4 := hv.1.2.1
  obtain ⟨t, t1, t2, t3⟩ := inb_at hx.1 (by omega)
  have c4 := (hv.1.2.2.1 t t1).2.2.1
  refine s_PT_index_0 (vl0 := 0) (vc0 := 0) (vs0 := 0) h hw (by omega) (by omega) (by omega) (c_TS_has hw hv.1.1 m4) ?_
  rintro _ _ _ ⟨rfl, rfl, rfl⟩
  refine s_PT_index_8 (vl0 := 0) (vc0 := 0) (vs0 := 0) h hw (fun q => absurd hx.1 (bI_0 q)) (fun _ => inb4 hx.1 m4) (by omega) (by omega) (by omega) (fun _ => by rw [t3]; exact c_TB_hasColumn hw (by omega) (hv.1.2.2.1 t t1).1 c4) (fun _ => ?_)
  rintro _ _ _ ⟨rfl, rfl, rfl⟩
  rw [t3] at hx
  refine s_PT_index_24 h hw (fun _ => inb4 hx.1 m4) (fun _ => inb4 hx.2 c4) (fun _ q => ?_) (fun _ q => ?_) (fun q => absurd hx.2 (bI_0 q))
  · exact s_PT_index_76 h he (Nat.le_refl _) (Nat.le_refl _) hw ⟨by rw [if_neg q], rfl, rfl⟩ rfl
  · exact s_PT_index_76 h he (Nat.le_refl _) (Nat.le_refl _) hw ⟨by rw [if_pos q], rfl, rfl⟩ rfl
theorem c_PT_index_1 {x y : Int32} (hfl : E.1.flags = flags0) (hw : mm_sh w) (hv : Iv f m R W n cl) (hx : ¬ (inb x m = true ∧ inb y (cl x.toNatClampNeg) = true)) : mm_T E y_PT_index b_PT_index 4 (some .boolean) 6 1 6 [mm_rf E 1, .int x, .int y] w f 10 w f := by
  refine mm_startT hfl (by decide) rfl (Nat.le_of_ble_eq_true rfl) fun Γ h hX hE he => ?_
  have m4 := hv.1.2.1
  have t := t_PT_index_27 (ca := 0) (sa := 0) (lv := [(0, mm_rf E 1), (1, .int x), (2, .int y)]) h hX hE (by omega) (sh_n hw) (by omega) (by omega)
  refine s_PT_index_0 (vl0 := 0) (vc0 := 0) (vs0 := 0) h hw (by omega) (by omega) (by omega) (c_TS_has hw hv.1.1 m4) ?_
  rintro _ _ _ ⟨rfl, rfl, rfl⟩
  by_cases q : inb x m = true
  · obtain ⟨u, t1, t2, t3⟩ := inb_at q (by omega)
    have c4 := (hv.1.2.2.1 u t1).2.2.1
    refine s_PT_index_8 (vl0 := 0) (vc0 := 0) (vs0 := 0) h hw (fun _ => t) (fun _ => inb4 q m4) (by omega) (by omega) (by omega) (fun _ => by rw [t3]; exact c_TB_hasColumn hw (by omega) (hv.1.2.2.1 u t1).1 c4) (fun _ => ?_)
    rintro _ _ _ ⟨rfl, rfl, rfl⟩
    have z : ¬ ¬ bI (inb y (cl u)) = 0 := fun z => hx ⟨q, by rw [t3]; exact bI_n0 z⟩
    exact s_PT_index_24 h hw (fun y => absurd y z) (fun y => absurd y z) (fun y => absurd y z) (fun y => absurd y z) (fun _ => t)
  · have z : ¬ ¬ bI (inb x m) = 0 := fun z => q (bI_n0 z)
    exact s_PT_index_8 (vl0 := 0) (vc0 := 0) (vs0 := 0) (P0 := fun _ _ _ => False) h hw (fun _ => t) (fun y => absurd y z) (by omega) (by omega) (by omega) (fun y => absurd y z) (fun y => absurd y z)
theorem Iv.cnt {t : Nat} (hv : Iv f m R W n cl) (ht : t < m) : f (4 + 12 * t) 1 = nI (n t) ∧ n t ≤ 48 ∧ f (4 + 12 * t) 0 = nI (cl t) ∧ cl t ≤ 4 ∧ 1 ≤ cl t ∧ t < 4 := by
  have := hv.1.2.1
  exact ⟨(hv.1.2.2.1 t ht).2.2.2.1, (hv.1.2.2.1 t ht).2.2.2.2.1, (hv.1.2.2.1 t ht).1, (hv.1.2.2.1 t ht).2.2.1, (hv.1.2.2.1 t ht).2.1, by omega⟩
theorem Iv.up {t c : Nat} (hv : Iv f m R W n cl) (ht : t < m) (hc : c < cl t) : tb_up f t c (n t) := by
  obtain ⟨L, hL⟩ := hv.L ht
  exact (hL c hc).up (hv.cnt ht).2.1
theorem c_PT_insert_1 {x : Int32} (hfl : E.1.flags = flags0) (hw : mm_sh w) (hv : Iv f m R W n cl) (hx : ¬ inb x m = true) : mm_T E y_PT_insert b_PT_insert 2 (some .int) 6 1 6 [mm_rf E 1, .int x] w f 10 w f := by
  refine mm_startT hfl (by decide) rfl (Nat.le_of_ble_eq_true rfl) fun Γ h hX hE he => ?_
  refine s_PT_insert_0 (vl0 := 0) (vc0 := 0) (vs0 := 0) h hw (by omega) (by omega) (by omega) (c_TS_has hw hv.1.1 hv.1.2.1) ?_
  rintro _ _ _ ⟨rfl, rfl, rfl⟩
  have z : ¬ ¬ bI (inb x m) = 0 := fun z => hx (bI_n0 z)
  exact s_PT_insert_8 (vl0 := 0) (vc0 := 0) (vs0 := 0) (P0 := fun _ _ _ => False) h hw (fun y => absurd y z) (by omega) (by omega) (by omega) (fun y => absurd y z) (fun y => absurd y z) (fun _ => t_PT_insert_11 h hX hE (by omega) (sh_n hw) (by omega) (by omega))
theorem c_PT_insert_2 {t : Nat} (hfl : E.1.flags = flags0) (hw : mm_sh w) (hv : Iv f m R W n cl) (ht : t < m) (hk : ¬ tb_slot f t (n t) (f 52 0) = -1) : mm_T E y_PT_insert b_PT_insert 2 (some .int) 6 1 6 [mm_rf E 1, .int (nI t)] w f 11 w f := by
  refine mm_startT hfl (by decide) rfl (Nat.le_of_ble_eq_true rfl) fun Γ h hX hE he => ?_
  obtain ⟨k1, k2, k3, k4, k5, k6⟩ := hv.cnt ht
  have hin : inb (nI t) m = true := inb_iff.mpr (nI_in ht (by have := hv.1.2.1; omega))
  refine s_PT_insert_0 (vl0 := 0) (vc0 := 0) (vs0 := 0) h hw (by omega) (by omega) (by omega) (c_TS_has hw hv.1.1 hv.1.2.1) ?_
  rintro _ _ _ ⟨rfl, rfl, rfl⟩
  refine s_PT_insert_8 (vl0 := 2) (vc0 := 0) (vs0 := 0) h hw (fun _ => inb4 hin hv.1.2.1) (by omega) (by omega) (by omega) (fun _ => by rw [nI_clamp (by omega)]; exact c_TB_slotOf hw k6 k1 k2 (hv.up ht k5)) (fun _ => ?_) (fun q => absurd hin (bI_0 q))
  rintro _ _ _ ⟨rfl, rfl, rfl⟩
  exact s_PT_insert_39 (vl0 := 0) (vc0 := 0) (vs0 := 0) (P0 := fun _ _ _ => False) h hw (by omega) (by omega) (by omega) (fun q => absurd q hk) (fun q => absurd q hk) (fun _ => t_PT_insert_43 h hX hE (by omega) (sh_n hw) (by omega) (by omega))
theorem Iv.cnts (hv : Iv f m R W n cl) : ∀ t, t < m → f (4 + 12 * t) 1 = nI (n t) ∧ n t ≤ 48 := fun t ht => ⟨(hv.cnt ht).1, (hv.cnt ht).2.1⟩
theorem c_PT_insert_3 {t : Nat} (hfl : E.1.flags = flags0) (hw : mm_sh w) (hv : Iv f m R W n cl) (ht : t < m) (hk : tb_slot f t (n t) (f 52 0) = -1) (hR : R = 48) : mm_T E y_PT_insert b_PT_insert 2 (some .int) 6 1 6 [mm_rf E 1, .int (nI t)] w f 9 w f := by
  refine mm_startT hfl (by decide) rfl (Nat.le_of_ble_eq_true rfl) fun Γ h hX hE he => ?_
  obtain ⟨k1, k2, k3, k4, k5, k6⟩ := hv.cnt ht
  have hin : inb (nI t) m = true := inb_iff.mpr (nI_in ht (by have := hv.1.2.1; omega))
  refine s_PT_insert_0 (vl0 := 0) (vc0 := 0) (vs0 := 0) h hw (by omega) (by omega) (by omega) (c_TS_has hw hv.1.1 hv.1.2.1) ?_
  rintro _ _ _ ⟨rfl, rfl, rfl⟩
  refine s_PT_insert_8 (vl0 := 2) (vc0 := 0) (vs0 := 0) h hw (fun _ => inb4 hin hv.1.2.1) (by omega) (by omega) (by omega) (fun _ => by rw [nI_clamp (by omega)]; exact c_TB_slotOf hw k6 k1 k2 (hv.up ht k5)) (fun _ => ?_) (fun q => absurd hin (bI_0 q))
  rintro _ _ _ ⟨rfl, rfl, rfl⟩
  refine s_PT_insert_39 (vl0 := 0) (vc0 := 0) (vs0 := 0) h hw (by omega) (by omega) (by omega) (fun _ => c_TS_rowsInAll hw hv.1.1 hv.1.2.1 hv.cnts) (fun _ => ?_) (fun q => absurd hk q)
  rintro _ _ _ ⟨rfl, rfl, rfl⟩
  have z : ¬ nI (smN n m) < 48 := by rw [hv.2.1.2.2.2.1, hR]; decide
  exact s_PT_insert_60 (vl0 := 0) (vc0 := 0) (vs0 := 0) (P0 := fun _ _ _ => False) h hw (fun y => absurd y z) (by omega) (by omega) (by omega) (fun y => absurd y z) (fun y => absurd y z) (fun _ => t_PT_insert_65 h hX hE (by omega) (sh_n hw) (by omega) (by omega))
theorem c_PT_insert_0 {t : Nat} (hw : mm_sh w) (hv : Iv f m R W n cl) (ht : t < m) (hk : tb_slot f t (n t) (f 52 0) = -1) (hR : R < 48) : mm_C E y_PT_insert b_PT_insert 2 (some .int) 3 0 0 [mm_rf E 1, .int (nI t)] w f (fun r w' f' => r = some (.int (nI (n t + 1))) ∧ w' = w ∧ f' 136 = f 136 ∧ (minF f' m R (nI t)).2 = nI (n t + 1) ∧ (minF f' m R (nI t)).1 136 0 = 0 ∧ IV (minF f' m R (nI t)).1) := by
  refine mm_start (by decide) rfl (Nat.le_of_ble_eq_true rfl) fun Γ h he => ?_
  obtain ⟨k1, k2, k3, k4, k5, k6⟩ := hv.cnt ht
  obtain ⟨L, hL⟩ := hv.L ht
  have hin : inb (nI t) m = true := inb_iff.mpr (nI_in ht (by have := hv.1.2.1; omega))
  have nlt : n t < 48 := by
    have : ∀ j, t < j → j ≤ m → n t ≤ smN n j := fun j h1 h2 => by
      induction j with
      | zero => omega
      | succ j ih =>
        show n t ≤ smN n j + n j
        by_cases e : t = j
        · subst e; omega
        · have := ih (by omega) (by omega); omega
    have := this m ht (Nat.le_refl _)
    rw [hv.2.1.2.2.2.1] at this; omega
  refine s_PT_insert_0 (vl0 := 0) (vc0 := 0) (vs0 := 0) h hw (by omega) (by omega) (by omega) (c_TS_has hw hv.1.1 hv.1.2.1) ?_
  rintro _ _ _ ⟨rfl, rfl, rfl⟩
  refine s_PT_insert_8 (vl0 := 2) (vc0 := 0) (vs0 := 0) h hw (fun _ => inb4 hin hv.1.2.1) (by omega) (by omega) (by omega) (fun _ => by rw [nI_clamp (by omega)]; exact c_TB_slotOf hw k6 k1 k2 (hv.up ht k5)) (fun _ => ?_) (fun q => absurd hin (bI_0 q))
  rintro _ _ _ ⟨rfl, rfl, rfl⟩
  refine s_PT_insert_39 (vl0 := 0) (vc0 := 0) (vs0 := 0) h hw (by omega) (by omega) (by omega) (fun _ => c_TS_rowsInAll hw hv.1.1 hv.1.2.1 hv.cnts) (fun _ => ?_) (fun q => absurd hk q)
  rintro _ _ _ ⟨rfl, rfl, rfl⟩
  have z : nI (smN n m) < 48 := by rw [hv.2.1.2.2.2.1]; exact (nI_ltI (b := 48) (by omega) (by omega)).mpr hR
  refine s_PT_insert_60 (vl0 := 2) (vc0 := 0) (vs0 := 0) h hw (fun _ => inb4 hin hv.1.2.1) (by omega) (by omega) (by omega) (fun _ => by rw [nI_clamp (by omega)]; exact c_TB_add (L := L) hw k6 k3 k4 k1 nlt (fun c hc => ⟨(hL c hc).1, (hL c hc).2.1, fun x hx => by have := ((hL c hc).2.2.1 x).mp hx; omega⟩)) (fun _ => ?_) (fun y => absurd z y)
  rintro _ w1 f1 ⟨rfl, rfl, g1, g2, g3, g4, g5⟩
  refine s_PT_insert_91 h he (Nat.le_refl _) (Nat.le_refl _) hw (inb4 hin hv.1.2.1) ⟨?_, rfl, g1 136 (by have := hv.1.2.1; omega) (fun c hc => by have := hv.1.2.1; have := (hv.1.2.2.1 t ht).2.2.1; omega), hv.ins_0 ht hk hR hL g1 g2 g3 g4 g5⟩
  rw [nI_clamp (by omega), g2]
end CPT2
