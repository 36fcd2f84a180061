/-! Contracts of the reference: insert, delete, cell, keyFrom, rows, words, output. -/
section CMD2
variable {E : mm_E} {w : mm_W} {f : mm_F} {m R : Nat}
theorem neg1 : ((-1 : Int32) < 0) := by decide
theorem c_MD_insert {x : Int32} (hw : mm_sh w) (hm : f 136 1 = nI m) (hm2 : m ≤ 4) (hR : f 136 5 = nI R) (hR2 : R ≤ 48) : mm_C E y_MD_insert b_MD_insert 3 (some .int) 1 0 0 [mm_rf E 136, .int x] w f (mm_P (some (.int (minF f m R x).2)) w (minF f m R x).1) := by
  refine mm_start (by decide) rfl (Nat.le_of_ble_eq_true rfl) fun Γ h he => ?_
  have i48 : (48 : Int32) = nI 48 := rfl
  have i4 : (4 : Int32) = nI 4 := rfl
  have bad : ∀ c : Int32, ¬ c ≤ 0 → minF f m R x = (mm_up f 136 0 c, 0) → mm_go E Γ 3 45 [(0, mm_rf E 136), (1, .int x)] [.int c, mm_rf E 136] w f 0 0 := fun c hc e => by
    refine s_MD_insert_45 h he (Nat.le_refl _) (Nat.le_refl _) hw (fun q => ?_) (fun q => ?_) (fun _ => by rw [e]; exact mm_Pr)
    all_goals (rw [mm_up_eq] at q; exact absurd q hc)
  have hx : minF f m R x = if inb x m = true then (if rwF f x (f 139 0) R < 0 then (if R = 48 then (mm_up f 136 0 3, 0) else (insF f R x, nI (ofN (insF f R x) x (R + 1)))) else (mm_up f 136 0 2, 0)) else (mm_up f 136 0 1, 0) := rfl
  refine s_MD_insert_0 (vl0 := 0) (vc0 := 0) (vs0 := 0) h hw (by omega) (by omega) (by omega) (c_MD_isTable hw hm hm2) ?_
  rintro _ _ _ ⟨rfl, rfl, rfl⟩
  refine s_MD_insert_6 (vl0 := 0) (vc0 := 0) (vs0 := 0) h hw (by omega) (by omega) (by omega) (fun _ => c_MD_rowWith hw hR hR2) (fun c1 => ?_) (fun c1 => ?_)
  · have b1 : inb x m = true := by
      cases hb : inb x m
      · rw [hb] at c1; exact absurd rfl c1
      · rfl
    rw [if_pos b1] at hx
    rintro _ _ _ ⟨rfl, rfl, rfl⟩
    refine s_MD_insert_24 h hw (fun c2 c3 => ?_) (fun c2 c3 => ?_) (fun c2 => ?_)
    · rw [hR, i48, nI_eq (by omega) (by omega)] at c3
      rw [if_pos c2, if_neg c3] at hx
      have e5 : (mm_up f 136 0 0) 136 5 = nI R := by rw [mm_up_ne _ _ (by omega)]; exact hR
      have eR := nI_clamp (n := R) (by omega)
      refine s_MD_insert_45 h he (Nat.le_refl _) (Nat.le_refl _) hw (fun _ => by rw [e5]; exact mm_inI (by omega) (by omega)) (fun _ => ?_) (fun q => ?_)
      · rw [e5, eR]
        have loop : ∀ d c, c + d = 4 → ∀ g : mm_F, g = (fun a j => if a = 136 ∧ j = 0 then 0 else if a = 140 ∧ j = R then x else if a = 141 ∧ 4 * R ≤ j ∧ j < 4 * R + c then f 139 (j - 4 * R) else f a j) → mm_go E Γ 3 69 [(0, mm_rf E 136), (1, .int x), (2, .int (nI c))] [] w g 0 0 := by
          intro d
          induction d with
          | zero =>
            intro c hc g hg
            have hc' : c = 4 := by omega
            subst hc'
            have g5 : g 136 5 = nI R := by rw [hg]; show (if _ then _ else _) = _; rw [if_neg (by omega), if_neg (by omega), if_neg (by omega)]; exact hR
            have e6 : mm_up g 136 5 (g 136 5 + 1) = insF f R x := by
              rw [g5, nI_1, hg]
              funext a j
              unfold mm_up insF
              by_cases h1 : a = 136 ∧ j = 5
              · obtain ⟨rfl, rfl⟩ := h1
                simp
              · rw [if_neg h1]
                simp only [h1, if_false]
            refine s_MD_insert_69 (vl0 := 0) (vc0 := 0) (vs0 := 0) h hw (by omega) (by omega) (by omega) (fun _ => by rw [e6]; exact c_MD_rowsOf (R := R + 1) hw (by unfold insF; rw [if_neg (by omega), if_neg (by omega), if_neg (by omega), if_pos ⟨rfl, rfl⟩]) (by omega)) (fun _ => ?_) (fun q => absurd (by decide) q) (fun q => absurd (by decide) q) (fun q => absurd (by decide) q)
            rintro _ _ _ ⟨rfl, rfl, rfl⟩
            exact s_MD_insert_114 h he (Nat.le_refl _) (Nat.le_refl _) hw (by rw [hx]; exact mm_Pr)
          | succ d ih =>
            intro c hc g hg
            have g5 : g 136 5 = nI R := by rw [hg]; show (if _ then _ else _) = _; rw [if_neg (by omega), if_neg (by omega), if_neg (by omega)]; exact hR
            have gs : g 139 c = f 139 c := by rw [hg]; show (if _ then _ else _) = _; rw [if_neg (by omega), if_neg (by omega), if_neg (by omega)]
            have ec := nI_clamp (n := c) (by omega)
            have ei := nI_clamp (n := 4 * R + c) (by omega)
            refine s_MD_insert_69 (vl0 := 0) (vc0 := 0) (vs0 := 0) (P0 := fun _ _ _ => False) h hw (by omega) (by omega) (by omega) (fun q => ?_) (fun q => ?_) (fun _ => mm_inI (by omega) (by omega)) (fun _ => ?_) (fun _ => ?_)
            · rw [i4, nI_leI (by omega) (by omega)] at q; omega
            · rw [i4, nI_leI (by omega) (by omega)] at q; omega
            · rw [g5, nI_4, nI_add]; exact mm_inI (by omega) (by omega)
            · rw [g5, nI_4, nI_add, ei, ec, nI_1, gs]
              refine ih (c + 1) (by omega) _ ?_
              rw [hg]
              funext a j
              unfold mm_up
              by_cases h1 : a = 141 ∧ j = 4 * R + c
              · rw [if_pos h1]
                show _ = (if _ then _ else _)
                rw [if_neg (by omega), if_neg (by omega), if_pos (by omega), show j - 4 * R = c by omega]
              · rw [if_neg h1]
                show (if _ then _ else _) = (if _ then _ else _)
                by_cases h2 : a = 141 ∧ 4 * R ≤ j ∧ j < 4 * R + c
                · rw [if_neg (by omega), if_neg (by omega), if_pos h2, if_neg (by omega), if_neg (by omega), if_pos (by omega)]
                · by_cases h3 : a = 136 ∧ j = 0
                  · rw [if_pos h3, if_pos h3]
                  · rw [if_neg h3, if_neg h3]
                    by_cases h4 : a = 140 ∧ j = R
                    · rw [if_pos h4, if_pos h4]
                    · rw [if_neg h4, if_neg h4, if_neg h2, if_neg (by omega)]
        refine loop 4 0 (by omega) _ ?_
        funext a j
        unfold mm_up
        by_cases h4 : a = 140 ∧ j = R
        · rw [if_pos h4, if_neg (by omega), if_pos h4]
        · rw [if_neg h4]
          by_cases h3 : a = 136 ∧ j = 0
          · rw [if_pos h3, if_pos h3]
          · rw [if_neg h3, if_neg h3, if_neg h4, if_neg (by omega)]
      · rw [mm_up_eq] at q; exact absurd (Int32.le_refl _) q
    · rw [hR, i48, nI_eq (by omega) (by omega)] at c3
      rw [if_pos c2, if_pos c3] at hx
      exact bad 3 (by decide) hx
    · rw [if_neg c2] at hx
      exact bad 2 (by decide) hx
  · have b1 : ¬ inb x m = true := fun q => by rw [q] at c1; exact absurd c1 (by decide)
    rw [if_neg b1] at hx
    exact bad 1 (by decide) hx
theorem rwF_congr {g : mm_F} {x key : Int32} (h1 : g 140 = f 140) (h2 : g 141 = f 141) : ∀ r, rwF g x key r = rwF f x key r
  | 0 => rfl
  | r + 1 => by
    have := rwF_congr (x := x) (key := key) h1 h2 r
    unfold rwF
    rw [h1, h2, this]
theorem c_MD_delete {x key : Int32} (hw : mm_sh w) (hm : f 136 1 = nI m) (hm2 : m ≤ 4) (hR : f 136 5 = nI R) (hR2 : R ≤ 48) : mm_C E y_MD_delete b_MD_delete 5 (some .int) 1 0 0 [mm_rf E 136, .int x, .int key] w f (mm_P (some (.int (mdF f m R x key).2)) w (mdF f m R x key).1) := by
  refine mm_start (by decide) rfl (Nat.le_of_ble_eq_true rfl) fun Γ h he => ?_
  have i4 : (4 : Int32) = nI 4 := rfl
  have bad : ∀ c : Int32, ¬ c ≤ 0 → mdF f m R x key = (mm_up f 136 0 c, 0) → mm_go E Γ 5 27 [(0, mm_rf E 136), (1, .int x), (2, .int key)] [.int c, mm_rf E 136] w f 0 0 := fun c hc e => by
    refine s_MD_delete_27 (vl0 := 0) (vc0 := 0) (vs0 := 0) (P0 := fun _ _ _ => False) h he (Nat.le_refl _) (Nat.le_refl _) hw (by omega) (by omega) (by omega) (fun q => ?_) (fun q => ?_) (fun _ => by rw [e]; exact mm_Pr)
    all_goals (rw [mm_up_eq] at q; exact absurd q hc)
  have hx : mdF f m R x key = if inb x m = true then (if rwF f x key R < 0 then (mm_up f 136 0 2, 0) else (delF f R (rwF f x key R).toNatClampNeg, nI (ofN (delF f R (rwF f x key R).toNatClampNeg) x (R - 1)))) else (mm_up f 136 0 1, 0) := rfl
  have hval := rwF_val f x key R
  refine s_MD_delete_0 (vl0 := 0) (vc0 := 0) (vs0 := 0) h hw (by omega) (by omega) (by omega) (c_MD_isTable hw hm hm2) ?_
  rintro _ _ _ ⟨rfl, rfl, rfl⟩
  refine s_MD_delete_6 (vl0 := 0) (vc0 := 0) (vs0 := 0) h hw (by omega) (by omega) (by omega) (fun _ => c_MD_rowWith hw hR hR2) (fun c1 => ?_) (fun c1 => ?_)
  · have b1 : inb x m = true := by
      cases hb : inb x m
      · rw [hb] at c1; exact absurd rfl c1
      · rfl
    rw [if_pos b1] at hx
    rintro _ _ _ ⟨rfl, rfl, rfl⟩
    refine s_MD_delete_19 h hw (fun c2 => ?_) (fun c2 => ?_)
    · rw [if_neg (Int32.not_lt.mpr c2)] at hx
      rcases hval with hv | ⟨r, hr, hv⟩
      · rw [hv] at c2; exact absurd c2 (by decide)
      rw [hv, nI_clamp (by omega)] at hx
      have e1 : rwF (mm_up f 136 0 0) x key R = nI r := by rw [rwF_congr (mm_up_off _ _ (by omega)) (mm_up_off _ _ (by omega))]; exact hv
      have e5 : (mm_up f 136 0 0) 136 5 = nI R := by rw [mm_up_ne _ _ (by omega)]; exact hR
      have er := nI_clamp (n := r) (by omega)
      have eR1 : nI R - 1 = nI (R - 1) := by
        have := nI_pred (R - 1)
        rw [show R - 1 + 1 = R by omega] at this
        exact this
      have eRc := nI_clamp (n := R - 1) (by omega)
      refine s_MD_delete_27 (vl0 := 0) (vc0 := 0) (vs0 := 0) h he (Nat.le_refl _) (Nat.le_refl _) hw (by omega) (by omega) (by omega) (fun _ => c_MD_rowWith hw e5 hR2) (fun _ => ?_) (fun q => ?_)
      · rintro _ _ _ ⟨rfl, rfl, rfl⟩
        rw [e1]
        refine s_MD_delete_45 h hw (by rw [mm_up_eq, e5, eR1]; exact mm_inI (by omega) (by omega)) (mm_inI (by omega) (by omega)) ?_
        rw [mm_up_eq, e5, eR1, eRc, er]
        have loop : ∀ d c, c + d = 4 → ∀ g : mm_F, g = (fun a j => if a = 136 ∧ j = 0 then 0 else if a = 140 ∧ j = r then f 140 (R - 1) else if a = 141 ∧ 4 * r ≤ j ∧ j < 4 * r + c then f 141 (4 * (R - 1) + (j - 4 * r)) else if a = 136 ∧ j = 5 then nI (R - 1) else f a j) → mm_go E Γ 5 74 [(0, mm_rf E 136), (1, .int x), (2, .int key), (3, .int (nI r)), (4, .int (nI c))] [] w g 0 0 := by
          intro d
          induction d with
          | zero =>
            intro c hc g hg
            have hc' : c = 4 := by omega
            subst hc'
            have e6 : g = delF f R r := hg
            refine s_MD_delete_74 (vl0 := 0) (vc0 := 0) (vs0 := 0) h hw (by omega) (by omega) (by omega) (fun _ => by rw [e6]; exact c_MD_rowsOf (R := R - 1) hw (by unfold delF; rw [if_neg (by omega), if_neg (by omega), if_neg (by omega), if_pos ⟨rfl, rfl⟩]) (by omega)) (fun _ => ?_) (fun q => absurd (by decide) q) (fun q => absurd (by decide) q) (fun q => absurd (by decide) q)
            rintro _ _ _ ⟨rfl, rfl, rfl⟩
            exact s_MD_delete_116 h he (Nat.le_refl _) (Nat.le_refl _) hw (by rw [hx]; exact mm_Pr)
          | succ d ih =>
            intro c hc g hg
            have g5 : g 136 5 = nI (R - 1) := by rw [hg]; show (if _ then _ else _) = _; rw [if_neg (by omega), if_neg (by omega), if_neg (by omega), if_pos ⟨rfl, rfl⟩]
            have gs : g 141 (4 * (R - 1) + c) = f 141 (4 * (R - 1) + c) := by
              rw [hg]
              show (if _ then _ else _) = _
              rw [if_neg (by omega), if_neg (by omega)]
              by_cases h1 : 4 * r ≤ 4 * (R - 1) + c ∧ 4 * (R - 1) + c < 4 * r + c
              · exact absurd h1 (by omega)
              · rw [if_neg (by omega), if_neg (by omega)]
            have ei := nI_clamp (n := 4 * (R - 1) + c) (by omega)
            have ej := nI_clamp (n := 4 * r + c) (by omega)
            refine s_MD_delete_74 (vl0 := 0) (vc0 := 0) (vs0 := 0) (P0 := fun _ _ _ => False) h hw (by omega) (by omega) (by omega) (fun q => ?_) (fun q => ?_) (fun _ => ?_) (fun _ => ?_) (fun _ => ?_)
            · rw [i4, nI_leI (by omega) (by omega)] at q; omega
            · rw [i4, nI_leI (by omega) (by omega)] at q; omega
            · rw [g5, nI_4, nI_add]; exact mm_inI (by omega) (by omega)
            · rw [nI_4, nI_add]; exact mm_inI (by omega) (by omega)
            · rw [g5, nI_4, nI_add, nI_4, nI_add, ei, ej, nI_1, gs]
              refine ih (c + 1) (by omega) _ ?_
              rw [hg]
              funext a j
              unfold mm_up
              by_cases h1 : a = 141 ∧ j = 4 * r + c
              · rw [if_pos h1]
                show _ = (if _ then _ else _)
                rw [if_neg (by omega), if_neg (by omega), if_pos (by omega), show j - 4 * r = c by omega]
              · rw [if_neg h1]
                show (if _ then _ else _) = (if _ then _ else _)
                by_cases h2 : a = 141 ∧ 4 * r ≤ j ∧ j < 4 * r + c
                · rw [if_neg (by omega), if_neg (by omega), if_pos h2, if_neg (by omega), if_neg (by omega), if_pos (by omega)]
                · by_cases h3 : a = 136 ∧ j = 0
                  · rw [if_pos h3, if_pos h3]
                  · rw [if_neg h3, if_neg h3]
                    by_cases h4 : a = 140 ∧ j = r
                    · rw [if_pos h4, if_pos h4]
                    · rw [if_neg h4, if_neg h4, if_neg h2, if_neg (c := a = 141 ∧ 4 * r ≤ j ∧ j < 4 * r + (c + 1)) (by omega)]
        refine loop 4 0 (by omega) _ ?_
        have e140 : (mm_up (mm_up f 136 0 0) 136 5 (nI (R - 1))) 140 (R - 1) = f 140 (R - 1) := by rw [mm_up_ne _ _ (by omega), mm_up_ne _ _ (by omega)]
        rw [e140]
        funext a j
        unfold mm_up
        by_cases h4 : a = 140 ∧ j = r
        · rw [if_pos h4, if_neg (by omega), if_pos h4]
        · rw [if_neg h4]
          by_cases h5 : a = 136 ∧ j = 5
          · rw [if_pos h5, if_neg (by omega), if_neg h4, if_neg (by omega), if_pos h5]
          · rw [if_neg h5]
            by_cases h3 : a = 136 ∧ j = 0
            · rw [if_pos h3, if_pos h3]
            · rw [if_neg h3, if_neg h3, if_neg h4, if_neg (by omega), if_neg h5]
      · rw [mm_up_eq] at q; exact absurd (Int32.le_refl _) q
    · rw [if_pos (Int32.not_le.mp c2)] at hx
      exact bad 2 (by decide) hx
  · have b1 : ¬ inb x m = true := fun q => by rw [q] at c1; exact absurd c1 (by decide)
    rw [if_neg b1] at hx
    exact bad 1 (by decide) hx
theorem c_MD_cell {cl : Nat → Nat} {x key y : Int32} (hw : mm_sh w) (hm : f 136 1 = nI m) (hm2 : m ≤ 4) (hcl : ∀ t, t < m → f 137 t = nI (cl t) ∧ cl t ≤ 4) (hR : f 136 5 = nI R) (hR2 : R ≤ 48) : mm_C E y_MD_cell b_MD_cell 4 (some .int) 1 0 0 [mm_rf E 136, .int x, .int key, .int y] w f (mm_P (some (.int (mcF f m R cl x key y).2)) w (mcF f m R cl x key y).1) := by
  refine mm_start (by decide) rfl (Nat.le_of_ble_eq_true rfl) fun Γ h he => ?_
  have hx : mcF f m R cl x key y = if inb x m = true ∧ inb y (cl x.toNatClampNeg) = true then (if rwF f x key R < 0 then (mm_up f 136 0 2, 0) else (mm_up f 136 0 0, f 141 (4 * (rwF f x key R).toNatClampNeg + y.toNatClampNeg))) else (mm_up f 136 0 1, 0) := rfl
  have hval := rwF_val f x key R
  have bad : ∀ c : Int32, ¬ c ≤ 0 → mcF f m R cl x key y = (mm_up f 136 0 c, 0) → mm_go E Γ 4 36 [(0, mm_rf E 136), (1, .int x), (2, .int key), (3, .int y)] [.int c, mm_rf E 136] w f 0 0 := fun c hc e => by
    refine s_MD_cell_36 (vl0 := 0) (vc0 := 0) (vs0 := 0) (P0 := fun _ _ _ => False) h hw (by omega) (by omega) (by omega) (fun q => ?_) (fun q => ?_) (fun _ => s_MD_cell_65 h he (Nat.le_refl _) (Nat.le_refl _) hw (by rw [e]; exact mm_Pr))
    all_goals (rw [mm_up_eq] at q; exact absurd q hc)
  refine s_MD_cell_0 (vl0 := 0) (vc0 := 0) (vs0 := 0) h hw (by omega) (by omega) (by omega) (c_MD_isTable hw hm hm2) ?_
  rintro _ _ _ ⟨rfl, rfl, rfl⟩
  by_cases c1 : inb x m = true
  · obtain ⟨ex, hxl⟩ := inb_nI c1 (by omega)
    obtain ⟨hc1, hc2⟩ := hcl _ hxl
    refine s_MD_cell_6 (vl0 := 0) (vc0 := 0) (vs0 := 0) h hw (fun q => ?_) (by omega) (by omega) (by omega) (fun _ => by rw [ex]; exact c_MD_isColumn hw (by omega) hc1 hc2) (fun _ => ?_)
    · rw [c1] at q; exact absurd q (by decide)
    · rintro _ _ _ ⟨rfl, rfl, rfl⟩
      by_cases c2 : inb y (cl x.toNatClampNeg) = true
      · rw [if_pos ⟨c1, c2⟩] at hx
        obtain ⟨ey, hyl⟩ := inb_nI c2 (by omega)
        refine s_MD_cell_15 (vl0 := 0) (vc0 := 0) (vs0 := 0) h hw (by omega) (by omega) (by omega) (fun _ => c_MD_rowWith hw hR hR2) (fun _ => ?_) (fun q => ?_)
        · rintro _ _ _ ⟨rfl, rfl, rfl⟩
          refine s_MD_cell_28 h hw (fun c3 => ?_) (fun c3 => ?_)
          · rw [if_neg (Int32.not_lt.mpr c3)] at hx
            rcases hval with hv | ⟨r, hr, hv⟩
            · rw [hv] at c3; exact absurd c3 (by decide)
            rw [hv, nI_clamp (by omega)] at hx
            have e1 : rwF (mm_up f 136 0 0) x key R = nI r := by rw [rwF_congr (mm_up_off _ _ (by omega)) (mm_up_off _ _ (by omega))]; exact hv
            have e5 : (mm_up f 136 0 0) 136 5 = nI R := by rw [mm_up_ne _ _ (by omega)]; exact hR
            have ei : 4 * nI r + y = nI (4 * r + y.toNatClampNeg) := by rw [nI_4, ← nI_add, ← ey]
            refine s_MD_cell_36 (vl0 := 0) (vc0 := 0) (vs0 := 0) h hw (by omega) (by omega) (by omega) (fun _ => c_MD_rowWith hw e5 hR2) (fun _ => ?_) (fun q => ?_)
            · rintro _ _ _ ⟨rfl, rfl, rfl⟩
              rw [e1]
              refine s_MD_cell_61 h hw (by rw [ei]; exact mm_inI (by omega) (by omega)) ?_
              rw [ei, nI_clamp (by omega), mm_up_ne _ _ (by omega)]
              exact s_MD_cell_65 h he (Nat.le_refl _) (Nat.le_refl _) hw (by rw [hx]; exact mm_Pr)
            · rw [mm_up_eq] at q; exact absurd (Int32.le_refl _) q
          · rw [if_pos (Int32.not_le.mp c3)] at hx
            exact bad 2 (by decide) hx
        · rw [c2] at q; exact absurd q (by decide)
      · rw [if_neg (fun z => c2 z.2)] at hx
        refine s_MD_cell_15 (vl0 := 0) (vc0 := 0) (vs0 := 0) (P0 := fun _ _ _ => False) h hw (by omega) (by omega) (by omega) (fun q => ?_) (fun q => ?_) (fun _ => s_MD_cell_18 h hw (bad 1 (by decide) hx))
        all_goals (rw [Bool.eq_false_iff.mpr c2] at q; exact absurd rfl q)
  · rw [if_neg (fun z => c1 z.1)] at hx
    refine s_MD_cell_6 (vl0 := 0) (vc0 := 0) (vs0 := 0) (P0 := fun _ _ _ => False) h hw (fun _ => s_MD_cell_18 h hw (bad 1 (by decide) hx)) (by omega) (by omega) (by omega) (fun q => ?_) (fun q => ?_)
    all_goals (rw [Bool.eq_false_iff.mpr c1] at q; exact absurd rfl q)
theorem kfF_congr {g : mm_F} {x low : Int32} (h1 : g 140 = f 140) (h2 : g 141 = f 141) : ∀ r, kfF g x low r = kfF f x low r
  | 0 => rfl
  | r + 1 => by
    have := kfF_congr (x := x) (low := low) h1 h2 r
    unfold kfF
    rw [h1, h2, this]
theorem c_MD_keyFrom {x low : Int32} (hw : mm_sh w) (hm : f 136 1 = nI m) (hm2 : m ≤ 4) (hR : f 136 5 = nI R) (hR2 : R ≤ 48) : mm_C E y_MD_keyFrom b_MD_keyFrom 6 (some .int) 1 0 0 [mm_rf E 136, .int x, .int low] w f (mm_P (some (.int (mkF f m R x low).2)) w (mkF f m R x low).1) := by
  refine mm_start (by decide) rfl (Nat.le_of_ble_eq_true rfl) fun Γ h he => ?_
  have hx : mkF f m R x low = if inb x m = true then (if kfF f x low R < 0 then (mm_up f 136 0 2, 0) else (mm_up f 136 0 0, f 141 (4 * (kfF f x low R).toNatClampNeg))) else (mm_up f 136 0 1, 0) := rfl
  refine s_MD_keyFrom_0 (vl0 := 0) (vc0 := 0) (vs0 := 0) h hw (by omega) (by omega) (by omega) (c_MD_isTable hw hm hm2) ?_
  rintro _ _ _ ⟨rfl, rfl, rfl⟩
  by_cases c1 : inb x m = true
  · rw [if_pos c1] at hx
    refine s_MD_keyFrom_6 h hw (fun q => by rw [c1] at q; exact absurd q (by decide)) (fun _ => ?_)
    refine s_MD_keyFrom_14 h he (Nat.le_refl _) (Nat.le_refl _) hw (fun _ => ?_) (fun q => by rw [mm_up_eq] at q; exact absurd (Int32.le_refl _) q)
    generalize hg : mm_up f 136 0 0 = g
    have g0 : g 140 = f 140 := by rw [← hg]; exact mm_up_off _ _ (by omega)
    have g1 : g 141 = f 141 := by rw [← hg]; exact mm_up_off _ _ (by omega)
    have g5 : g 136 5 = nI R := by rw [← hg, mm_up_ne _ _ (by omega)]; exact hR
    have gu : ∀ v, mm_up g 136 0 v = mm_up f 136 0 v := fun v => by
      rw [← hg]
      funext a j
      unfold mm_up
      by_cases h1 : a = 136 ∧ j = 0
      · rw [if_pos h1, if_pos h1]
      · rw [if_neg h1, if_neg h1, if_neg h1]
    have loop : ∀ d r, r + d = R → mm_go E Γ 6 31 [(0, mm_rf E 136), (1, .int x), (2, .int low), (3, .int (kfF f x low r)), (4, .int (nI r))] [] w g 0 0 := by
      intro d
      induction d with
      | zero =>
        intro r hr
        have hr' : r = R := by omega
        subst hr'
        have hval := kfF_val f x low r
        refine s_MD_keyFrom_31 h hw (fun _ c2 => ?_) (fun _ c2 => ?_) (fun q => ?_) (fun q => ?_) (fun q => ?_) (fun q => ?_) (fun q => ?_)
        · rw [if_neg (Int32.not_lt.mpr c2)] at hx
          rcases hval with hv | ⟨b, hb, hv⟩
          · rw [hv] at c2; exact absurd c2 (by decide)
          rw [hv, nI_clamp (by omega)] at hx
          rw [hv]
          refine s_MD_keyFrom_123 h hw (fun _ => by rw [nI_4]; exact mm_inI (by omega) (by omega)) (fun _ => ?_) (fun q => by rw [hv] at c2; exact absurd c2 q)
          rw [nI_4, nI_clamp (by omega), gu, mm_up_ne _ _ (by omega)]
          exact s_MD_keyFrom_142 h he (Nat.le_refl _) (Nat.le_refl _) hw (by rw [hx]; exact mm_Pr)
        · rw [if_pos (Int32.not_le.mp c2)] at hx
          refine s_MD_keyFrom_123 h hw (fun q => absurd q c2) (fun q => absurd q c2) (fun _ => ?_)
          rw [gu]
          exact s_MD_keyFrom_142 h he (Nat.le_refl _) (Nat.le_refl _) hw (by rw [hx]; exact mm_Pr)
        all_goals (rw [g5] at q; exact absurd (Int32.le_refl _) q)
      | succ d ih =>
        intro r hr
        have er := nI_clamp (n := r) (by omega)
        have e4 := nI_clamp (n := 4 * r) (by omega)
        have h0 := ih (r + 1) (by omega)
        have hk : kfF f x low (r + 1) = if f 140 r = x ∧ ¬ f 141 (4 * r) < low ∧ (kfF f x low r < 0 ∨ ¬ f 141 (4 * (kfF f x low r).toNatClampNeg) ≤ f 141 (4 * r)) then nI r else kfF f x low r := rfl
        have hval := kfF_val f x low r
        generalize kfF f x low r = b at hk hval ⊢
        have z106 : ∀ (v v5 : Int32), kfF f x low (r + 1) = v → mm_go E Γ 6 106 [(0, mm_rf E 136), (1, .int x), (2, .int low), (3, .int b), (4, .int (nI r)), (5, .int v5)] [.int v] w g 0 0 := fun v v5 e => by
          refine s_MD_keyFrom_106 h hw ?_
          rw [nI_1, ← e]
          exact h0
        have no : ¬ (f 140 r = x ∧ ¬ f 141 (4 * r) < low) → mm_go E Γ 6 68 [(0, mm_rf E 136), (1, .int x), (2, .int low), (3, .int b), (4, .int (nI r))] [] w g 0 0 := fun q => by
          rw [if_neg (fun z => q ⟨z.1, z.2.1⟩)] at hk
          refine s_MD_keyFrom_68 h hw ?_
          refine s_MD_keyFrom_69 h hw (fun _ => s_MD_keyFrom_105 h hw (z106 _ _ hk)) (fun z => absurd rfl z) (fun z => absurd rfl z) (fun z => absurd rfl z) (fun z => absurd rfl z) (fun z => absurd rfl z)
        refine s_MD_keyFrom_31 h hw (fun q => ?_) (fun q => ?_) (fun _ => mm_inI (by omega) (by omega)) (fun _ q => ?_) (fun _ _ => by rw [nI_4]; exact mm_inI (by omega) (by omega)) (fun _ q1 q2 => ?_) (fun _ q1 q2 => ?_)
        · rw [g5, nI_leI (by omega) (by omega)] at q; omega
        · rw [g5, nI_leI (by omega) (by omega)] at q; omega
        · rw [er, g0] at q; exact no (fun z => q z.1)
        · rw [nI_4, e4, g1] at q2; exact no (fun z => z.2 q2)
        · rw [er, g0] at q1
          rw [nI_4, e4, g1] at q2
          refine s_MD_keyFrom_69 h hw (fun z => absurd z (by decide)) (fun _ c2 => ?_) (fun _ _ => by rw [nI_4]; exact mm_inI (by omega) (by omega)) (fun _ c2 => ?_) (fun _ c2 c3 => ?_) (fun _ c2 c3 => ?_)
          · rw [if_pos ⟨q1, q2, Or.inl c2⟩] at hk
            exact s_MD_keyFrom_100 h hw (z106 _ _ hk)
          · rcases hval with hv | ⟨bb, hb, hv⟩
            · rw [hv] at c2; exact absurd neg1 c2
            · rw [hv, nI_4]; exact mm_inI (by omega) (by omega)
          · rcases hval with hv | ⟨bb, hb, hv⟩
            · rw [hv] at c2; exact absurd neg1 c2
            · subst hv
              rw [nI_4, nI_4, e4, nI_clamp (by omega), g1] at c3
              rw [if_neg (fun z => z.2.2.elim c2 (fun u => u (by rw [nI_clamp (by omega)]; exact c3)))] at hk
              exact s_MD_keyFrom_105 h hw (z106 _ _ hk)
          · rcases hval with hv | ⟨bb, hb, hv⟩
            · rw [hv] at c2; exact absurd neg1 c2
            · subst hv
              rw [nI_4, nI_4, e4, nI_clamp (by omega), g1] at c3
              rw [if_pos ⟨q1, q2, Or.inr (by rw [nI_clamp (by omega)]; exact c3)⟩] at hk
              exact s_MD_keyFrom_100 h hw (z106 _ _ hk)
    exact loop R 0 (by omega)
  · rw [if_neg c1] at hx
    refine s_MD_keyFrom_6 h hw (fun _ => ?_) (fun q => by rw [Bool.eq_false_iff.mpr c1] at q; exact absurd rfl q)
    refine s_MD_keyFrom_14 h he (Nat.le_refl _) (Nat.le_refl _) hw (fun q => ?_) (fun _ => by rw [hx]; exact mm_Pr)
    rw [mm_up_eq] at q; exact absurd q (by decide)
theorem c_MD_rows {x : Int32} (hw : mm_sh w) (hm : f 136 1 = nI m) (hm2 : m ≤ 4) (hR : f 136 5 = nI R) (hR2 : R ≤ 48) : mm_C E y_MD_rows b_MD_rows 2 (some .int) 1 0 0 [mm_rf E 136, .int x] w f (mm_P (some (.int (if inb x m = true then nI (ofN f x R) else -1))) w (mm_up f 136 0 0)) := by
  refine mm_start (by decide) rfl (Nat.le_of_ble_eq_true rfl) fun Γ h he => ?_
  have g1 : (mm_up f 136 0 0) 136 1 = nI m := by rw [mm_up_ne _ _ (by omega)]; exact hm
  have g5 : (mm_up f 136 0 0) 136 5 = nI R := by rw [mm_up_ne _ _ (by omega)]; exact hR
  have eo : ofN (mm_up f 136 0 0) x R = ofN f x R := cn_congr fun r _ => by rw [mm_up_off _ _ (by omega)]
  refine s_MD_rows_0 (vl0 := 0) (vc0 := 0) (vs0 := 0) h hw (by omega) (by omega) (by omega) (c_MD_isTable hw g1 hm2) ?_
  rintro _ _ _ ⟨rfl, rfl, rfl⟩
  by_cases c1 : inb x m = true
  · rw [if_pos c1] at he
    refine s_MD_rows_10 (vl0 := 0) (vc0 := 0) (vs0 := 0) h hw (fun q => by rw [c1] at q; exact absurd q (by decide)) (by omega) (by omega) (by omega) (fun _ => c_MD_rowsOf hw g5 hR2) (fun _ => ?_)
    rintro _ _ _ ⟨rfl, rfl, rfl⟩
    refine s_MD_rows_18 h hw (s_MD_rows_22 h he (Nat.le_refl _) (Nat.le_refl _) hw ?_)
    rw [eo]
    exact mm_Pr
  · rw [if_neg c1] at he
    refine s_MD_rows_10 (vl0 := 0) (vc0 := 0) (vs0 := 0) (P0 := fun _ _ _ => False) h hw (fun _ => s_MD_rows_22 h he (Nat.le_refl _) (Nat.le_refl _) hw mm_Pr) (by omega) (by omega) (by omega) (fun q => ?_) (fun q => ?_)
    all_goals (rw [Bool.eq_false_iff.mpr c1] at q; exact absurd rfl q)
theorem c_MD_word {x : Int32} {k : Nat} (hw : mm_sh w) (hk : f 136 8 = nI k) (hk2 : k ≤ 40) : mm_C E y_MD_word b_MD_word 2 (some .boolean) 0 0 0 [mm_rf E 136, .int x] w f (if k = 40 then mm_P (some (.int 0)) w (mm_up f 136 0 0) else mm_P (some (.int 1)) w (mm_up (mm_up (mm_up f 136 0 0) 142 k x) 136 8 (nI (k + 1)))) := by
  refine mm_start (by decide) rfl (Nat.le_of_ble_eq_true rfl) fun Γ h he => ?_
  have g8 : (mm_up f 136 0 0) 136 8 = nI k := by rw [mm_up_ne _ _ (by omega)]; exact hk
  have i40 : (40 : Int32) = nI 40 := rfl
  have ek := nI_clamp (n := k) (by omega)
  refine s_MD_word_0 h he (Nat.le_refl _) (Nat.le_refl _) hw (fun q => ?_) (fun q => ?_) (fun q => ?_)
  · rw [g8, i40, nI_eq (by omega) (by omega)] at q
    rw [g8]; exact mm_inI (by omega) (by omega)
  · rw [g8, i40, nI_eq (by omega) (by omega)] at q
    rw [if_neg q, g8, ek, mm_up_ne _ _ (by omega), g8, nI_1]
    exact mm_Pr
  · rw [g8, i40, nI_eq (by omega) (by omega)] at q
    rw [if_pos q]
    exact mm_Pr
theorem c_MD_clear (hw : mm_sh w) : mm_C E y_MD_clear b_MD_clear 2 (some .int) 0 0 0 [mm_rf E 136] w f (mm_P (some (.int (f 136 8))) w (mm_up (mm_up f 136 0 0) 136 8 0)) :=
  mm_start (by decide) rfl (Nat.le_of_ble_eq_true rfl) fun Γ h he => s_MD_clear_0 h he (Nat.le_refl _) (Nat.le_refl _) hw (by rw [mm_up_ne _ _ (by omega)]; exact mm_Pr)
theorem c_MD_visits (hw : mm_sh w) : mm_C E y_MD_visits b_MD_visits 1 (some .int) 0 0 0 [mm_rf E 136] w f (mm_P (some (.int (f 136 29))) w (mm_up f 136 0 0)) :=
  mm_start (by decide) rfl (Nat.le_of_ble_eq_true rfl) fun Γ h he => s_MD_visits_0 h he (Nat.le_refl _) (Nat.le_refl _) hw (by rw [mm_up_ne _ _ (by omega)]; exact mm_Pr)
theorem c_MD_size (hw : mm_sh w) : mm_C E y_MD_size b_MD_size 1 (some .int) 0 0 0 [mm_rf E 136] w f (mm_P (some (.int (f 136 30))) w (mm_up f 136 0 0)) :=
  mm_start (by decide) rfl (Nat.le_of_ble_eq_true rfl) fun Γ h he => s_MD_size_0 h he (Nat.le_refl _) (Nat.le_refl _) hw (by rw [mm_up_ne _ _ (by omega)]; exact mm_Pr)
theorem c_MD_out {x : Int32} {k : Nat} (hw : mm_sh w) (hk : f 136 30 = nI k) (hk2 : k ≤ 64) : mm_C E y_MD_out b_MD_out 2 (some .int) 0 0 0 [mm_rf E 136, .int x] w f (mm_P (some (.int (if inb x k = true then f 151 x.toNatClampNeg else 0))) w (mm_up f 136 0 0)) := by
  refine mm_start (by decide) rfl (Nat.le_of_ble_eq_true rfl) fun Γ h he => ?_
  have g8 : (mm_up f 136 0 0) 136 30 = nI k := by rw [mm_up_ne _ _ (by omega)]; exact hk
  have hin := inb_cmp (x := x) (n := k) (by omega)
  have bad : ¬ inb x k = true → mm_go E Γ 2 26 [(0, mm_rf E 136), (1, .int x)] [] w (mm_up f 136 0 0) 0 0 := fun q => by
    rw [if_neg q] at he
    exact s_MD_out_26 h hw (s_MD_out_27 h he (Nat.le_refl _) (Nat.le_refl _) hw mm_Pr)
  refine s_MD_out_0 h hw (fun c1 => bad fun q => (hin.mp q).1 c1) (fun c1 c2 => bad fun q => (hin.mp q).2 (by rw [g8] at c2; exact c2)) (fun c1 c2 => ?_) (fun c1 c2 => ?_)
  · rw [g8] at c2
    obtain ⟨e, hl⟩ := inb_nI (hin.mpr ⟨c1, c2⟩) (by omega)
    rw [e]; exact mm_inI (by omega) (by omega)
  · rw [g8] at c2
    rw [if_pos (hin.mpr ⟨c1, c2⟩)] at he
    rw [mm_up_ne _ _ (by omega)]
    exact s_MD_out_27 h he (Nat.le_refl _) (Nat.le_refl _) hw mm_Pr
end CMD2
