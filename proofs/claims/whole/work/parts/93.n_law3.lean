/-! The law: class and reference together, call by call. -/
section LB
variable {E : mm_E} {w : mm_W} {f : mm_F} {m R W : Nat} {n cl : Nat → Nat}
theorem sh_new {k : Nat} (hw : mm_sh w) : mm_sh (mm_new w k 0) := by
  have h0 := hw.1
  exact ⟨by show 153 ≤ mm_n w + 1; omega, fun a h1 h2 => by
    obtain ⟨p1, p2, p3⟩ := hw.2 a h1 h2
    refine ⟨by rw [mm_k_new, if_neg (by omega)]; exact p1, by rw [mm_l_new, if_neg (by omega)]; exact p2, fun j => by rw [mm_r_new, if_neg (by omega)]; exact p3 j⟩⟩
theorem sh_sj {v : Int64} (hw : mm_sh w) : mm_sh (mm_sj w 152 0 v) := hw
theorem f0_far (hw : mm_sh w) : ∀ a, a < 153 → mm_f0 w f a = f a := fun a ha => by
  have h0 := hw.1
  funext j
  rw [mm_f0_at, if_neg (by omega)]
theorem sj_at (v : Int64) : mm_j (mm_sj w 152 0 v) 152 0 = v := by
  show mm_up w.2.2.2.2 152 0 v 152 0 = v
  exact mm_up_eq _ _ _ _
/-- the class threw, the reference says so -/
theorem lb_x {y : MethodName} {cy : ByteArray} {ny lev kk : Nat} {ret : FieldType} {As : List Value} {g : Int32 → Int64} {c : Int32} {F : mm_F × Int32} (hw : mm_sh w) (hv : Iv f m R W n cl) (hc : Iv (mm_f0 w f) m R W n cl → mm_C E y cy ny (some ret) lev 0 0 (mm_rf E 136 :: As) (mm_new w kk 0) (mm_f0 w f) (mm_P (some (.int F.2)) (mm_new w kk 0) F.1)) (hF : F = (mm_up (mm_f0 w f) 136 0 c, 0)) (h0 : c ≠ 0) :
    lw_B E y cy ny ret lev As g (mm_P (some (.int c)) (mm_new w kk 0) (mm_f0 w f)) := by
  rintro _ _ _ ⟨rfl, rfl, rfl⟩
  have hv1 : Iv (mm_f0 w f) m R W n cl := hv.far (f0_far hw)
  have c1 := hc hv1
  rw [hF] at c1
  exact ⟨c, 0, mm_up (mm_f0 w f) 136 0 c, rfl, sh_new hw, c1, mm_up_eq _ _ _ _, fun q => absurd q h0, m, R, W, n, cl, hv1.code c⟩
/-- the class answered, the reference too -/
theorem lb_k {y : MethodName} {cy : ByteArray} {ny lev : Nat} {ret : FieldType} {As : List Value} {v : Int32} {f1 : mm_F} {F : mm_F × Int32} (hw : mm_sh w) (hc : ∀ z : Int64, mm_C E y cy ny (some ret) lev 0 0 (mm_rf E 136 :: As) (mm_sj w 152 0 z) f1 (mm_P (some (.int F.2)) (mm_sj w 152 0 z) F.1)) (h1 : F.2 = v) (h2 : F.1 136 0 = 0) (h3 : IV F.1) :
    lw_B E y cy ny ret lev As Int32.toInt64 (w_P (mm_P (some (.int v)) w f1)) := by
  rintro r w' f' ⟨v0, w0, ⟨e1, rfl, rfl⟩, rfl, rfl⟩
  cases e1
  exact ⟨0, F.2, F.1, rfl, sh_sj hw, hc _, h2, fun _ => by rw [sj_at, h1], h3⟩
theorem ok_P {v : Int32} {f1 : mm_F} (hw : mm_sh w) : w_ok (mm_P (some (.int v)) w f1) := by
  rintro _ _ _ ⟨rfl, rfl, rfl⟩
  exact ⟨v, rfl, hw⟩
theorem lb_table (hfl : E.1.flags = flags0) (hw : mm_sh w) (hv : Iv f m R W n cl) (x : Int32) : ∃ P, mm_CW E y_LW_table b_LW_table 4 (some .int) [(0, 9, 12, 13), (0, 9, 15, 15)] 7 3 20 [mm_rf E 1, .int x, mm_rf E 152] w f P ∧ lw_B E y_MD_table b_MD_table 2 .int 0 [.int x] Int32.toInt64 P := by
  by_cases hx : x < 1 ∨ ¬ x ≤ 4
  · exact ⟨_, w_table_1 hfl hw (c_PT_table_1 hfl hw hx) (by omega) (by omega) (by omega) (sh_n hw), lb_x hw hv (fun hv1 => c_MD_table (x := x) (sh_new hw) hv1.2.1.1 hv1.1.2.1) (Iv.table_1 hx) (by decide)⟩
  · by_cases hm : m = 4
    · exact ⟨_, w_table_2 hfl hw (c_PT_table_2 hfl hw hv hx hm) (by omega) (by omega) (by omega) (sh_n hw), lb_x hw hv (fun hv1 => c_MD_table (x := x) (sh_new hw) hv1.2.1.1 hv1.1.2.1) (Iv.table_2 hx hm) (by decide)⟩
    · obtain ⟨h1, h2, h3⟩ := hv.table_0 hx hm _ rfl
      have m4 := hv.1.2.1
      refine ⟨_, w_table_0 hfl hw (c_PT_table_0 hw hv hx hm) (by omega) (by omega) (by omega) (ok_P hw), lb_k hw (fun z => c_MD_table (m := m) (x := x) (sh_sj hw) ?_ m4) h1 h2 h3⟩
      rw [mm_up_ne _ _ (by omega), mm_up_ne _ _ (by omega), mm_up_ne _ _ (by omega)]
      exact hv.2.1.1
theorem lb_index (hfl : E.1.flags = flags0) (hw : mm_sh w) (hv : Iv f m R W n cl) (x y : Int32) : ∃ P, mm_CW E y_LW_index b_LW_index 5 (some .int) [(0, 17, 20, 21)] 7 3 20 [mm_rf E 1, .int x, .int y, mm_rf E 152] w f P ∧ lw_B E y_MD_index b_MD_index 3 .boolean 1 [.int x, .int y] (fun v => if v = 0 then 0 else 1) P := by
  have hcl : ∀ {g : mm_F}, Iv g m R W n cl → ∀ t, t < m → g 137 t = nI (cl t) ∧ cl t ≤ 4 := fun hg t ht => ⟨hg.2.1.2.2.2.2.1 t ht, (hg.1.2.2.1 t ht).2.2.1⟩
  by_cases hx : inb x m = true ∧ inb y (cl x.toNatClampNeg) = true
  · obtain ⟨h1, h2, h3⟩ := hv.index_0 hx _ rfl
    have m4 := hv.1.2.1
    obtain ⟨t, t1, t2, t3⟩ := inb_at hx.1 (by omega)
    refine ⟨_, w_index_0 hfl hw (c_PT_index_0 hw hv hx) (by omega) (by omega) (by omega) (ok_P hw), ?_⟩
    rintro r w' f' ⟨v0, w0, ⟨e1, rfl, rfl⟩, rfl, rfl⟩
    cases e1
    refine ⟨0, _, _, rfl, sh_sj hw, c_MD_index (m := m) (cl := cl) (sh_sj hw) ?_ m4 (fun u hu => ⟨?_, (hcl hv u hu).2⟩), h2, fun _ => ?_, h3⟩
    · rw [mm_up_ne _ _ (by omega)]; exact hv.2.1.1
    · rw [mm_up_ne _ _ (by omega)]; exact (hcl hv u hu).1
    · rw [sj_at, h1]
  · exact ⟨_, w_index_1 hfl hw (c_PT_index_1 hfl hw hv hx) (by omega) (by omega) (by omega) (sh_n hw), lb_x hw hv (fun hv1 => c_MD_index (x := x) (y := y) (sh_new hw) hv1.2.1.1 hv1.1.2.1 (hcl hv1)) (Iv.index_1 hx) (by decide)⟩
theorem lb_insert (hfl : E.1.flags = flags0) (hw : mm_sh w) (hv : Iv f m R W n cl) (x : Int32) : ∃ P, mm_CW E y_LW_insert b_LW_insert 4 (some .int) [(0, 9, 12, 21), (0, 9, 15, 26), (0, 9, 18, 15)] 7 3 20 [mm_rf E 1, .int x, mm_rf E 152] w f P ∧ lw_B E y_MD_insert b_MD_insert 3 .int 1 [.int x] Int32.toInt64 P := by
  have m4 := hv.1.2.1
  have hMD : ∀ {kk : Nat}, Iv (mm_f0 w f) m R W n cl → mm_C E y_MD_insert b_MD_insert 3 (some .int) 1 0 0 [mm_rf E 136, .int x] (mm_new w kk 0) (mm_f0 w f) (mm_P (some (.int (minF (mm_f0 w f) m R x).2)) (mm_new w kk 0) (minF (mm_f0 w f) m R x).1) := fun hv1 => c_MD_insert (sh_new hw) hv1.2.1.1 hv1.1.2.1 hv1.2.1.2.1 hv1.2.1.2.2.1
  by_cases hx : inb x m = true
  · obtain ⟨t, t1, t2, t3⟩ := inb_at hx (by omega)
    have fr := f0_far (f := f) hw
    have ht4 : t < 4 := by omega
    have hv1 : Iv (mm_f0 w f) m R W n cl := hv.far fr
    have es : tb_slot (mm_f0 w f) t (n t) ((mm_f0 w f) 52 0) = tb_slot f t (n t) (f 52 0) := by rw [fr 52 (by omega)]; exact tb_slot_far ht4 fr
    subst t2
    by_cases hk : tb_slot f t (n t) (f 52 0) = -1
    · by_cases hR : R = 48
      · exact ⟨_, w_insert_3 hfl hw (c_PT_insert_3 hfl hw hv t1 hk hR) (by omega) (by omega) (by omega) (sh_n hw), lb_x hw hv hMD (hv1.ins_3 t1 (by rw [es]; exact hk) hR) (by decide)⟩
      · have R48 := hv.2.1.2.2.1
        refine ⟨_, w_insert_0 hfl hw (c_PT_insert_0 hw hv t1 hk (by omega)) (by omega) (by omega) (by omega) (fun r w' f' hp => ⟨_, hp.1, by rw [hp.2.1]; exact hw⟩), ?_⟩
        rintro r w' f' ⟨v0, w0, ⟨e1, rfl, e2, h1, h2, h3⟩, rfl, rfl⟩
        cases e1
        exact ⟨0, _, _, rfl, sh_sj hw, c_MD_insert (sh_sj hw) (by rw [e2]; exact hv.2.1.1) m4 (by rw [e2]; exact hv.2.1.2.1) R48, h2, fun _ => by rw [sj_at, h1], h3⟩
    · exact ⟨_, w_insert_2 hfl hw (c_PT_insert_2 hfl hw hv t1 hk) (by omega) (by omega) (by omega) (sh_n hw), lb_x hw hv hMD (hv1.ins_2 t1 (by rw [es]; exact hk)) (by decide)⟩
  · exact ⟨_, w_insert_1 hfl hw (c_PT_insert_1 hfl hw hv hx) (by omega) (by omega) (by omega) (sh_n hw), lb_x hw hv hMD (Iv.ins_1 hx) (by decide)⟩
theorem Iv.slot1 {t : Nat} {key : Int32} (hv : Iv f m R W n cl) (ht : t < m) (hk : ¬ tb_slot f t (n t) key = -1) : ∃ s, s < n t ∧ tb_slot f t (n t) key = nI s := by
  rcases hv.slot ht key with ⟨s, s1, _, s2⟩ | z
  · exact ⟨s, s1, s2⟩
  · exact absurd z hk
theorem tb_below_far {f g : mm_F} {t c n : Nat} {low : Int32} (ht : t < 4) (hc : c < 4) (hg : ∀ a, a < 153 → g a = f a) : tb_below g t c n low = tb_below f t c n low := tb_below_congr (f := g) (g := f) (hg _ (by omega)) (hg _ (by omega))
theorem lb_delete (hfl : E.1.flags = flags0) (hw : mm_sh w) (hv : Iv f m R W n cl) (x key : Int32) : ∃ P, mm_CW E y_LW_delete b_LW_delete 5 (some .int) [(0, 10, 13, 21), (0, 10, 17, 32)] 7 3 20 [mm_rf E 1, .int x, .int key, mm_rf E 152] w f P ∧ lw_B E y_MD_delete b_MD_delete 5 .int 1 [.int x, .int key] Int32.toInt64 P := by
  have m4 := hv.1.2.1
  have R48 := hv.2.1.2.2.1
  have hMD : ∀ {kk : Nat}, Iv (mm_f0 w f) m R W n cl → mm_C E y_MD_delete b_MD_delete 5 (some .int) 1 0 0 [mm_rf E 136, .int x, .int key] (mm_new w kk 0) (mm_f0 w f) (mm_P (some (.int (mdF (mm_f0 w f) m R x key).2)) (mm_new w kk 0) (mdF (mm_f0 w f) m R x key).1) := fun hv1 => c_MD_delete (sh_new hw) hv1.2.1.1 hv1.1.2.1 hv1.2.1.2.1 hv1.2.1.2.2.1
  by_cases hx : inb x m = true
  · obtain ⟨t, t1, t2, t3⟩ := inb_at hx (by omega)
    have fr := f0_far (f := f) hw
    have ht4 : t < 4 := by omega
    have hv1 : Iv (mm_f0 w f) m R W n cl := hv.far fr
    have es : tb_slot (mm_f0 w f) t (n t) key = tb_slot f t (n t) key := tb_slot_far ht4 fr
    subst t2
    by_cases hk : tb_slot f t (n t) key = -1
    · exact ⟨_, w_delete_2 hfl hw (c_PT_delete_2 hfl hw hv t1 hk) (by omega) (by omega) (by omega) (sh_n hw), lb_x hw hv hMD (hv1.del_2 t1 (by rw [es]; exact hk)) (by decide)⟩
    · obtain ⟨s, s1, s2⟩ := hv.slot1 t1 hk
      refine ⟨_, w_delete_0 hfl hw (c_PT_delete_0 hw hv t1 s1 s2) (by omega) (by omega) (by omega) (fun r w' f' hp => ⟨_, hp.1, by rw [hp.2.1]; exact hw⟩), ?_⟩
      rintro r w' f' ⟨v0, w0, ⟨e1, rfl, e2, h1, h2, h3⟩, rfl, rfl⟩
      cases e1
      exact ⟨0, _, _, rfl, sh_sj hw, c_MD_delete (sh_sj hw) (by rw [e2]; exact hv.2.1.1) m4 (by rw [e2]; exact hv.2.1.2.1) R48, h2, fun _ => by rw [sj_at, h1], h3⟩
  · exact ⟨_, w_delete_1 hfl hw (c_PT_delete_1 hfl hw hv hx) (by omega) (by omega) (by omega) (sh_n hw), lb_x hw hv hMD (Iv.del_1 hx) (by decide)⟩
theorem lb_cell (hfl : E.1.flags = flags0) (hw : mm_sh w) (hv : Iv f m R W n cl) (x key y : Int32) : ∃ P, mm_CW E y_LW_cell b_LW_cell 6 (some .int) [(0, 12, 15, 21), (0, 12, 19, 32)] 7 3 20 [mm_rf E 1, .int x, .int key, .int y, mm_rf E 152] w f P ∧ lw_B E y_MD_cell b_MD_cell 4 .int 1 [.int x, .int key, .int y] Int32.toInt64 P := by
  have m4 := hv.1.2.1
  have R48 := hv.2.1.2.2.1
  have hcl : ∀ {g : mm_F}, Iv g m R W n cl → ∀ t, t < m → g 137 t = nI (cl t) ∧ cl t ≤ 4 := fun hg t ht => ⟨hg.2.1.2.2.2.2.1 t ht, (hg.1.2.2.1 t ht).2.2.1⟩
  have hMD : ∀ {kk : Nat}, Iv (mm_f0 w f) m R W n cl → mm_C E y_MD_cell b_MD_cell 4 (some .int) 1 0 0 [mm_rf E 136, .int x, .int key, .int y] (mm_new w kk 0) (mm_f0 w f) (mm_P (some (.int (mcF (mm_f0 w f) m R cl x key y).2)) (mm_new w kk 0) (mcF (mm_f0 w f) m R cl x key y).1) := fun hv1 => c_MD_cell (sh_new hw) hv1.2.1.1 hv1.1.2.1 (hcl hv1) hv1.2.1.2.1 hv1.2.1.2.2.1
  by_cases hx : inb x m = true ∧ inb y (cl x.toNatClampNeg) = true
  · obtain ⟨t, t1, t2, t3⟩ := inb_at hx.1 (by omega)
    have hy := hx.2
    rw [t3] at hy
    have c4 := (hv.1.2.2.1 t t1).2.2.1
    obtain ⟨d, d1, d2, d3⟩ := inb_at hy (by omega)
    have fr := f0_far (f := f) hw
    have ht4 : t < 4 := by omega
    have hv1 : Iv (mm_f0 w f) m R W n cl := hv.far fr
    have es : tb_slot (mm_f0 w f) t (n t) key = tb_slot f t (n t) key := tb_slot_far ht4 fr
    subst t2
    by_cases hk : tb_slot f t (n t) key = -1
    · exact ⟨_, w_cell_2 hfl hw (c_PT_cell_2 hfl hw hv t1 hy hk) (by omega) (by omega) (by omega) (sh_n hw), lb_x hw hv hMD (hv1.cell_2 t1 hy (by rw [es]; exact hk)) (by decide)⟩
    · obtain ⟨s, s1, s2⟩ := hv.slot1 t1 hk
      subst d2
      have e := hv.cell_0 (key := key) t1 d1 s2 s1
      refine ⟨_, w_cell_0 hfl hw (c_PT_cell_0 hw hv t1 d1 s1 s2) (by omega) (by omega) (by omega) (ok_P hw), lb_k (F := mcF f m R cl (nI t) key (nI d)) hw (fun z => c_MD_cell (sh_sj hw) hv.2.1.1 m4 (hcl hv) hv.2.1.2.1 R48) (by rw [e]) (by rw [e]; exact mm_up_eq f 136 0 0) (by rw [e]; exact ⟨m, R, W, n, cl, hv.code 0⟩)⟩
  · exact ⟨_, w_cell_1 hfl hw (c_PT_cell_1 hfl hw hv hx) (by omega) (by omega) (by omega) (sh_n hw), lb_x hw hv hMD (Iv.cell_1 hx) (by decide)⟩
theorem lb_keyFrom (hfl : E.1.flags = flags0) (hw : mm_sh w) (hv : Iv f m R W n cl) (x low : Int32) : ∃ P, mm_CW E y_LW_keyFrom b_LW_keyFrom 5 (some .int) [(0, 10, 13, 21), (0, 10, 17, 32)] 7 3 20 [mm_rf E 1, .int x, .int low, mm_rf E 152] w f P ∧ lw_B E y_MD_keyFrom b_MD_keyFrom 6 .int 1 [.int x, .int low] Int32.toInt64 P := by
  have m4 := hv.1.2.1
  have R48 := hv.2.1.2.2.1
  have hMD : ∀ {kk : Nat}, Iv (mm_f0 w f) m R W n cl → mm_C E y_MD_keyFrom b_MD_keyFrom 6 (some .int) 1 0 0 [mm_rf E 136, .int x, .int low] (mm_new w kk 0) (mm_f0 w f) (mm_P (some (.int (mkF (mm_f0 w f) m R x low).2)) (mm_new w kk 0) (mkF (mm_f0 w f) m R x low).1) := fun hv1 => c_MD_keyFrom (sh_new hw) hv1.2.1.1 hv1.1.2.1 hv1.2.1.2.1 hv1.2.1.2.2.1
  by_cases hx : inb x m = true
  · obtain ⟨t, t1, t2, t3⟩ := inb_at hx (by omega)
    have fr := f0_far (f := f) hw
    have ht4 : t < 4 := by omega
    have hv1 : Iv (mm_f0 w f) m R W n cl := hv.far fr
    subst t2
    by_cases hk : tb_below f t 0 (n t) low < n t
    · have e := hv.key_0 (low := low) t1 hk
      exact ⟨_, w_keyFrom_0 hfl hw (c_PT_keyFrom_0 hw hv t1 hk) (by omega) (by omega) (by omega) (ok_P hw), lb_k (F := mkF f m R (nI t) low) hw (fun z => c_MD_keyFrom (sh_sj hw) hv.2.1.1 m4 hv.2.1.2.1 R48) (by rw [e]) (by rw [e]; exact mm_up_eq f 136 0 0) (by rw [e]; exact ⟨m, R, W, n, cl, hv.code 0⟩)⟩
    · have es : tb_below (mm_f0 w f) t 0 (n t) low = tb_below f t 0 (n t) low := tb_below_far ht4 (by omega) fr
      exact ⟨_, w_keyFrom_2 hfl hw (c_PT_keyFrom_2 hfl hw hv t1 hk) (by omega) (by omega) (by omega) (sh_n hw), lb_x hw hv hMD (hv1.key_2 t1 (by rw [es]; exact hk)) (by decide)⟩
  · exact ⟨_, w_keyFrom_1 hfl hw (c_PT_keyFrom_1 hfl hw hv hx) (by omega) (by omega) (by omega) (sh_n hw), lb_x hw hv hMD (Iv.key_1 hx) (by decide)⟩
end LB
