/-! Contracts of the reference: tables and rows. Row r: of at 140 r, cells at 141 (4 r + c). -/
theorem nI_mul (a b : Nat) : nI a * nI b = nI (a * b) := (Int32.ofNat_mul a b).symm
theorem nI_4 (a : Nat) : 4 * nI a = nI (4 * a) := nI_mul 4 a
def rwF (f : mm_F) (x key : Int32) : Nat → Int32
  | 0 => -1
  | r + 1 => if f 140 r = x ∧ f 141 (4 * r) = key then nI r else rwF f x key r
theorem rwF_val (f : mm_F) (x key : Int32) : ∀ R, rwF f x key R = -1 ∨ ∃ r, r < R ∧ rwF f x key R = nI r
  | 0 => Or.inl rfl
  | R + 1 => by
    unfold rwF
    split
    · exact Or.inr ⟨R, by omega, rfl⟩
    · rcases rwF_val f x key R with h | ⟨r, h1, h2⟩
      · exact Or.inl h
      · exact Or.inr ⟨r, by omega, h2⟩
def kfF (f : mm_F) (x low : Int32) : Nat → Int32
  | 0 => -1
  | r + 1 => if f 140 r = x ∧ ¬ f 141 (4 * r) < low ∧ (kfF f x low r < 0 ∨ ¬ f 141 (4 * (kfF f x low r).toNatClampNeg) ≤ f 141 (4 * r)) then nI r else kfF f x low r
theorem kfF_val (f : mm_F) (x low : Int32) : ∀ R, kfF f x low R = -1 ∨ ∃ r, r < R ∧ kfF f x low R = nI r
  | 0 => Or.inl rfl
  | R + 1 => by
    unfold kfF
    split
    · exact Or.inr ⟨R, by omega, rfl⟩
    · rcases kfF_val f x low R with h | ⟨r, h1, h2⟩
      · exact Or.inl h
      · exact Or.inr ⟨r, by omega, h2⟩
def ofN (f : mm_F) (x : Int32) (R : Nat) : Nat := cn (fun r => decide (f 140 r = x)) R
def insF (f : mm_F) (R : Nat) (x : Int32) : mm_F := fun a j => if a = 136 ∧ j = 0 then 0 else if a = 140 ∧ j = R then x else if a = 141 ∧ 4 * R ≤ j ∧ j < 4 * R + 4 then f 139 (j - 4 * R) else if a = 136 ∧ j = 5 then nI (R + 1) else f a j
def delF (f : mm_F) (R r : Nat) : mm_F := fun a j => if a = 136 ∧ j = 0 then 0 else if a = 140 ∧ j = r then f 140 (R - 1) else if a = 141 ∧ 4 * r ≤ j ∧ j < 4 * r + 4 then f 141 (4 * (R - 1) + (j - 4 * r)) else if a = 136 ∧ j = 5 then nI (R - 1) else f a j
def mtF (f : mm_F) (m : Nat) (x : Int32) : mm_F × Int32 :=
  if x < 1 ∨ ¬ x ≤ 4 then (mm_up f 136 0 1, 0) else if m = 4 then (mm_up f 136 0 2, 0) else (mm_up (mm_up (mm_up (mm_up f 136 0 0) 137 m x) 138 (4 * m) 1) 136 1 (nI (m + 1)), nI m)
def miF (f : mm_F) (m : Nat) (cl : Nat → Nat) (x y : Int32) : mm_F × Int32 :=
  if inb x m = true ∧ inb y (cl x.toNatClampNeg) = true then (if f 138 (4 * x.toNatClampNeg + y.toNatClampNeg) = 0 then (mm_up (mm_up f 136 0 0) 138 (4 * x.toNatClampNeg + y.toNatClampNeg) 1, 1) else (mm_up f 136 0 0, 0)) else (mm_up f 136 0 1, 0)
def msF (f : mm_F) (x y : Int32) : mm_F × Int32 := if inb x 4 = true then (mm_up (mm_up f 136 0 0) 139 x.toNatClampNeg y, 1) else (mm_up f 136 0 0, 0)
def minF (f : mm_F) (m R : Nat) (x : Int32) : mm_F × Int32 :=
  if inb x m = true then (if rwF f x (f 139 0) R < 0 then (if R = 48 then (mm_up f 136 0 3, 0) else (insF f R x, nI (ofN (insF f R x) x (R + 1)))) else (mm_up f 136 0 2, 0)) else (mm_up f 136 0 1, 0)
def mdF (f : mm_F) (m R : Nat) (x key : Int32) : mm_F × Int32 :=
  if inb x m = true then (if rwF f x key R < 0 then (mm_up f 136 0 2, 0) else (delF f R (rwF f x key R).toNatClampNeg, nI (ofN (delF f R (rwF f x key R).toNatClampNeg) x (R - 1)))) else (mm_up f 136 0 1, 0)
def mcF (f : mm_F) (m R : Nat) (cl : Nat → Nat) (x key y : Int32) : mm_F × Int32 :=
  if inb x m = true ∧ inb y (cl x.toNatClampNeg) = true then (if rwF f x key R < 0 then (mm_up f 136 0 2, 0) else (mm_up f 136 0 0, f 141 (4 * (rwF f x key R).toNatClampNeg + y.toNatClampNeg))) else (mm_up f 136 0 1, 0)
def mkF (f : mm_F) (m R : Nat) (x low : Int32) : mm_F × Int32 :=
  if inb x m = true then (if kfF f x low R < 0 then (mm_up f 136 0 2, 0) else (mm_up f 136 0 0, f 141 (4 * (kfF f x low R).toNatClampNeg))) else (mm_up f 136 0 1, 0)
section CMD1
variable {E : mm_E} {w : mm_W} {f : mm_F} {m R : Nat}
theorem nI_lt0 (k : Nat) (h : k < 2 ^ 31) : ¬ nI k < 0 := nI_pos h
theorem c_MD_thrown (hw : mm_sh w) : mm_C E y_MD_thrown b_MD_thrown 1 (some .int) 0 0 0 [mm_rf E 136] w f (mm_P (some (.int (f 136 0))) w f) :=
  mm_start (by decide) rfl (Nat.le_of_ble_eq_true rfl) fun Γ h he => s_MD_thrown_0 h he (Nat.le_refl _) (Nat.le_refl _) hw mm_Pr
theorem c_MD_isTable {x : Int32} (hw : mm_sh w) (hm : f 136 1 = nI m) (hm2 : m ≤ 4) : mm_C E y_MD_isTable b_MD_isTable 2 (some .boolean) 0 0 0 [mm_rf E 136, .int x] w f (mm_P (some (.int (bI (inb x m)))) w f) := by
  refine mm_start (by decide) rfl (Nat.le_of_ble_eq_true rfl) fun Γ h he => ?_
  have hin := inb_cmp (x := x) (n := m) (by omega)
  have z17 : ∀ b : Bool, inb x m = b → mm_go E Γ 2 17 [(0, mm_rf E 136), (1, .int x)] [.int (bI b)] w f 0 0 := fun b e =>
    s_MD_isTable_17 h he (Nat.le_refl _) (Nat.le_refl _) hw (by rw [e]; exact mm_Pr) (mm_b2 (bI_01 b))
  refine s_MD_isTable_0 h hw (fun c1 => ?_) (fun c1 c2 => ?_) (fun c1 c2 => ?_)
  · refine s_MD_isTable_16 h hw (z17 false ?_)
    exact Bool.eq_false_iff.mpr fun q => (hin.mp q).1 c1
  · refine s_MD_isTable_16 h hw (z17 false ?_)
    rw [hm] at c2
    exact Bool.eq_false_iff.mpr fun q => (hin.mp q).2 c2
  · refine z17 true ?_
    rw [hm] at c2
    exact hin.mpr ⟨c1, c2⟩
theorem c_MD_isColumn {t n : Nat} {x : Int32} (hw : mm_sh w) (ht : t < 4) (hn : f 137 t = nI n) (hn2 : n ≤ 4) : mm_C E y_MD_isColumn b_MD_isColumn 3 (some .boolean) 0 0 0 [mm_rf E 136, .int (nI t), .int x] w f (mm_P (some (.int (bI (inb x n)))) w f) := by
  refine mm_start (by decide) rfl (Nat.le_of_ble_eq_true rfl) fun Γ h he => ?_
  have et := nI_clamp (n := t) (by omega)
  have hin := inb_cmp (x := x) (n := n) (by omega)
  have z19 : ∀ b : Bool, inb x n = b → mm_go E Γ 3 19 [(0, mm_rf E 136), (1, .int (nI t)), (2, .int x)] [.int (bI b)] w f 0 0 := fun b e =>
    s_MD_isColumn_19 h he (Nat.le_refl _) (Nat.le_refl _) hw (by rw [e]; exact mm_Pr) (mm_b2 (bI_01 b))
  refine s_MD_isColumn_0 h hw (fun c1 => ?_) (fun c1 => mm_inI ht (by omega)) (fun c1 c2 => ?_) (fun c1 c2 => ?_)
  · refine s_MD_isColumn_18 h hw (z19 false ?_)
    exact Bool.eq_false_iff.mpr fun q => (hin.mp q).1 c1
  · refine s_MD_isColumn_18 h hw (z19 false ?_)
    rw [et, hn] at c2
    exact Bool.eq_false_iff.mpr fun q => (hin.mp q).2 c2
  · refine z19 true ?_
    rw [et, hn] at c2
    exact hin.mpr ⟨c1, c2⟩
theorem c_MD_rowWith {x key : Int32} (hw : mm_sh w) (hR : f 136 5 = nI R) (hR2 : R ≤ 48) : mm_C E y_MD_rowWith b_MD_rowWith 5 (some .int) 0 0 0 [mm_rf E 136, .int x, .int key] w f (mm_P (some (.int (rwF f x key R))) w f) := by
  refine mm_start (by decide) rfl (Nat.le_of_ble_eq_true rfl) fun Γ h he => ?_
  have loop : ∀ d r, r + d = R → mm_go E Γ 5 5 [(0, mm_rf E 136), (1, .int x), (2, .int key), (3, .int (rwF f x key r)), (4, .int (nI r))] [] w f 0 0 := by
    intro d
    induction d with
    | zero =>
      intro r hr
      have hr' : r = R := by omega
      subst hr'
      refine s_MD_rowWith_5 h he (Nat.le_refl _) (Nat.le_refl _) hw (fun _ => mm_Pr) (fun q => ?_) (fun q => ?_) (fun q => ?_) (fun q => ?_) (fun q => ?_)
      all_goals (rw [hR] at q; exact absurd (Int32.le_refl _) q)
    | succ d ih =>
      intro r hr
      have er := nI_clamp (n := r) (by omega)
      have e4 := nI_clamp (n := 4 * r) (by omega)
      have hx : rwF f x key (r + 1) = if f 140 r = x ∧ f 141 (4 * r) = key then nI r else rwF f x key r := rfl
      have h0 := ih (r + 1) (by omega)
      have no : ¬ (f 140 r = x ∧ f 141 (4 * r) = key) → mm_go E Γ 5 43 [(0, mm_rf E 136), (1, .int x), (2, .int key), (3, .int (rwF f x key r)), (4, .int (nI r))] [] w f 0 0 := fun q => by
        rw [if_neg q] at hx
        rw [hx] at h0
        refine s_MD_rowWith_43 h hw (s_MD_rowWith_44 h hw ?_)
        rw [nI_1]
        exact h0
      refine s_MD_rowWith_5 h he (Nat.le_refl _) (Nat.le_refl _) hw (fun q => ?_) (fun q => mm_inI (by omega) (by omega)) (fun _ q => ?_) (fun _ q => ?_) (fun _ q1 q2 => ?_) (fun _ q1 q2 => ?_)
      · rw [hR, nI_leI (by omega) (by omega)] at q; omega
      · rw [er] at q; exact no (fun z => q z.1)
      · rw [nI_4]; exact mm_inI (by omega) (by omega)
      · rw [nI_4, e4] at q2; exact no (fun z => q2 z.2)
      · rw [er] at q1
        rw [nI_4, e4] at q2
        rw [if_pos ⟨q1, q2⟩] at hx
        rw [hx] at h0
        refine s_MD_rowWith_44 h hw ?_
        rw [nI_1]
        exact h0
  exact s_MD_rowWith_0 h hw (loop R 0 (by omega))
theorem c_MD_rowsOf {x : Int32} (hw : mm_sh w) (hR : f 136 5 = nI R) (hR2 : R ≤ 48) : mm_C E y_MD_rowsOf b_MD_rowsOf 4 (some .int) 0 0 0 [mm_rf E 136, .int x] w f (mm_P (some (.int (nI (ofN f x R)))) w f) := by
  refine mm_start (by decide) rfl (Nat.le_of_ble_eq_true rfl) fun Γ h he => ?_
  have loop : ∀ d r, r + d = R → mm_go E Γ 4 4 [(0, mm_rf E 136), (1, .int x), (2, .int (nI (ofN f x r))), (3, .int (nI r))] [] w f 0 0 := by
    intro d
    induction d with
    | zero =>
      intro r hr
      have hr' : r = R := by omega
      subst hr'
      refine s_MD_rowsOf_4 h he (Nat.le_refl _) (Nat.le_refl _) hw (fun _ => mm_Pr) (fun q => ?_) (fun q => ?_) (fun q => ?_)
      all_goals (rw [hR] at q; exact absurd (Int32.le_refl _) q)
    | succ d ih =>
      intro r hr
      have er := nI_clamp (n := r) (by omega)
      have h0 := ih (r + 1) (by omega)
      have hx : ofN f x (r + 1) = ofN f x r + (if decide (f 140 r = x) = true then 1 else 0) := rfl
      refine s_MD_rowsOf_4 h he (Nat.le_refl _) (Nat.le_refl _) hw (fun q => ?_) (fun q => mm_inI (by omega) (by omega)) (fun _ q => ?_) (fun _ q => ?_)
      · rw [hR, nI_leI (by omega) (by omega)] at q; omega
      · rw [er] at q
        rw [if_neg (by simpa using q), Nat.add_zero] at hx
        rw [hx] at h0
        refine s_MD_rowsOf_29 h hw ?_
        rw [nI_1]
        exact h0
      · rw [er] at q
        rw [if_pos (by simpa using q)] at hx
        rw [hx] at h0
        refine s_MD_rowsOf_29 h hw ?_
        rw [nI_1, nI_1]
        exact h0
  exact s_MD_rowsOf_0 h hw (loop R 0 (by omega))
theorem c_MD_table {x : Int32} (hw : mm_sh w) (hm : f 136 1 = nI m) (hm2 : m ≤ 4) : mm_C E y_MD_table b_MD_table 2 (some .int) 0 0 0 [mm_rf E 136, .int x] w f (mm_P (some (.int (mtF f m x).2)) w (mtF f m x).1) := by
  refine mm_start (by decide) rfl (Nat.le_of_ble_eq_true rfl) fun Γ h he => ?_
  have i4 : (4 : Int32) = nI 4 := rfl
  have bad : ∀ c : Int32, ¬ c ≤ 0 → mtF f m x = (mm_up f 136 0 c, 0) → mm_go E Γ 2 28 [(0, mm_rf E 136), (1, .int x)] [.int c, mm_rf E 136] w f 0 0 := fun c hc e => by
    refine s_MD_table_28 h he (Nat.le_refl _) (Nat.le_refl _) hw (fun q => ?_) (fun q => ?_) (fun q => ?_) (fun _ => by rw [e]; exact mm_Pr)
    all_goals (rw [mm_up_eq] at q; exact absurd q hc)
  refine s_MD_table_0 h hw (fun c1 => ?_) (fun c1 c2 c3 => ?_) (fun c1 c2 c3 => ?_) (fun c1 c2 => ?_)
  · refine s_MD_table_11 h hw (bad 1 (by decide) ?_)
    unfold mtF
    rw [if_pos (Or.inl c1)]
  · rw [hm, i4, nI_eq (by omega) (by omega)] at c3
    have hx : mtF f m x = (mm_up (mm_up (mm_up (mm_up f 136 0 0) 137 m x) 138 (4 * m) 1) 136 1 (nI (m + 1)), nI m) := by
      unfold mtF
      rw [if_neg (fun z => z.elim c1 (fun q => q c2)), if_neg c3]
    have em : (mm_up f 136 0 0) 136 1 = nI m := by rw [mm_up_ne _ _ (by omega)]; exact hm
    have ec := nI_clamp (n := m) (by omega)
    have em2 : (mm_up (mm_up f 136 0 0) 137 m x) 136 1 = nI m := by rw [mm_up_ne _ _ (by omega)]; exact em
    have em3 : (mm_up (mm_up (mm_up f 136 0 0) 137 m x) 138 (4 * m) 1) 136 1 = nI m := by rw [mm_up_ne _ _ (by omega)]; exact em2
    refine s_MD_table_28 h he (Nat.le_refl _) (Nat.le_refl _) hw (fun q => ?_) (fun q => ?_) (fun q => ?_) (fun q => ?_)
    · rw [em]; exact mm_inI (by omega) (by omega)
    · rw [em, ec, em2, nI_4]; exact mm_inI (by omega) (by omega)
    · rw [em, ec, em2, nI_4, nI_clamp (n := 4 * m) (by omega), em3, mm_up_eq, nI_1, nI_pred, hx]
      exact mm_Pr
    · rw [mm_up_eq] at q; exact absurd (Int32.le_refl _) q
  · rw [hm, i4, nI_eq (by omega) (by omega)] at c3
    refine bad 2 (by decide) ?_
    unfold mtF
    rw [if_neg (fun z => z.elim c1 (fun q => q c2)), if_pos c3]
  · refine s_MD_table_11 h hw (bad 1 (by decide) ?_)
    unfold mtF
    rw [if_pos (Or.inr c2)]
theorem inb_nI {x : Int32} {n : Nat} (h : inb x n = true) (hn : n ≤ 1000) : x = nI x.toNatClampNeg ∧ x.toNatClampNeg < n := by
  obtain ⟨j, hj, e⟩ := inb_of h (by omega)
  rw [e, nI_clamp (by omega)]
  exact ⟨rfl, hj⟩
theorem c_MD_index {cl : Nat → Nat} {x y : Int32} (hw : mm_sh w) (hm : f 136 1 = nI m) (hm2 : m ≤ 4) (hcl : ∀ t, t < m → f 137 t = nI (cl t) ∧ cl t ≤ 4) : mm_C E y_MD_index b_MD_index 3 (some .boolean) 1 0 0 [mm_rf E 136, .int x, .int y] w f (mm_P (some (.int (miF f m cl x y).2)) w (miF f m cl x y).1) := by
  refine mm_start (by decide) rfl (Nat.le_of_ble_eq_true rfl) fun Γ h he => ?_
  have bad : ¬ (inb x m = true ∧ inb y (cl x.toNatClampNeg) = true) → mm_go E Γ 3 22 [(0, mm_rf E 136), (1, .int x), (2, .int y)] [mm_rf E 136] w f 0 0 := fun z => by
    have hx : miF f m cl x y = (mm_up f 136 0 1, 0) := by unfold miF; rw [if_neg z]
    refine s_MD_index_22 h hw ?_
    refine s_MD_index_23 h he (Nat.le_refl _) (Nat.le_refl _) hw (fun _ => ?_) (fun q => ?_) (fun q => ?_) (fun q => ?_)
    · exact s_MD_index_46 h he (Nat.le_refl _) (Nat.le_refl _) hw (by rw [hx]; exact mm_Pr)
    all_goals (rw [mm_up_eq] at q; exact absurd (by decide) q)
  refine s_MD_index_0 (vl0 := 0) (vc0 := 0) (vs0 := 0) h hw (by omega) (by omega) (by omega) (c_MD_isTable hw hm hm2) ?_
  rintro _ _ _ ⟨rfl, rfl, rfl⟩
  by_cases c1 : inb x m = true
  · obtain ⟨ex, hxl⟩ := inb_nI c1 (by omega)
    obtain ⟨hc1, hc2⟩ := hcl _ hxl
    refine s_MD_index_6 (vl0 := 0) (vc0 := 0) (vs0 := 0) h hw (fun q => ?_) (by omega) (by omega) (by omega) (fun _ => by rw [ex]; exact c_MD_isColumn hw (by omega) hc1 hc2) (fun _ => ?_)
    · rw [c1] at q; exact absurd q (by decide)
    · rintro _ _ _ ⟨rfl, rfl, rfl⟩
      by_cases c2 : inb y (cl x.toNatClampNeg) = true
      · obtain ⟨ey, hyl⟩ := inb_nI c2 (by omega)
        have e0 : (mm_up f 136 0 0) 136 0 = 0 := mm_up_eq _ _ _ _
        have ei : 4 * x + y = nI (4 * x.toNatClampNeg + y.toNatClampNeg) := by
          have h1 : 4 * x = nI (4 * x.toNatClampNeg) := by rw [← nI_4, ← ex]
          rw [h1, ← nI_add, ← ey]
        have ek := nI_clamp (n := 4 * x.toNatClampNeg + y.toNatClampNeg) (by omega)
        refine s_MD_index_15 h hw (fun q => ?_) (fun _ => ?_)
        · rw [c2] at q; exact absurd q (by decide)
        · refine s_MD_index_23 h he (Nat.le_refl _) (Nat.le_refl _) hw (fun q => ?_) (fun q => ?_) (fun _ q => ?_) (fun _ q => ?_)
          · rw [e0] at q; exact absurd q (by decide)
          · rw [ei]; exact mm_inI (by omega) (by omega)
          · rw [ei, ek] at q ⊢
            rw [mm_up_ne _ _ (by omega)] at q
            unfold miF
            rw [if_pos ⟨c1, c2⟩, if_pos q]
            exact mm_Pr
          · rw [ei, ek, mm_up_ne _ _ (by omega)] at q
            refine s_MD_index_46 h he (Nat.le_refl _) (Nat.le_refl _) hw ?_
            unfold miF
            rw [if_pos ⟨c1, c2⟩, if_neg q]
            exact mm_Pr
      · refine s_MD_index_15 h hw (fun _ => bad (fun z => c2 z.2)) (fun q => ?_)
        rw [Bool.eq_false_iff.mpr c2] at q
        exact absurd rfl q
  · refine s_MD_index_6 (vl0 := 0) (vc0 := 0) (vs0 := 0) (P0 := fun _ _ _ => False) h hw (fun _ => bad (fun z => c1 z.1)) (by omega) (by omega) (by omega) (fun q => ?_) (fun q => ?_)
    all_goals (rw [Bool.eq_false_iff.mpr c1] at q; exact absurd rfl q)
theorem c_MD_stage {x y : Int32} (hw : mm_sh w) : mm_C E y_MD_stage b_MD_stage 3 (some .boolean) 0 0 0 [mm_rf E 136, .int x, .int y] w f (mm_P (some (.int (msF f x y).2)) w (msF f x y).1) := by
  refine mm_start (by decide) rfl (Nat.le_of_ble_eq_true rfl) fun Γ h he => ?_
  have hin := inb_cmp (x := x) (n := 4) (by omega)
  have e3 : x ≤ 3 ↔ ¬ nI 4 ≤ x := by
    rw [Int32.le_iff_toInt_le, Int32.le_iff_toInt_le, nI_toInt (by omega)]
    have : (3 : Int32).toInt = 3 := by decide
    omega
  have bad : ¬ inb x 4 = true → mm_go E Γ 3 14 [(0, mm_rf E 136), (1, .int x), (2, .int y)] [] w (mm_up f 136 0 0) 0 0 := fun z =>
    s_MD_stage_14 h he (Nat.le_refl _) (Nat.le_refl _) hw (by unfold msF; rw [if_neg z]; exact mm_Pr)
  refine s_MD_stage_0 h he (Nat.le_refl _) (Nat.le_refl _) hw (fun c1 => bad (fun q => (hin.mp q).1 c1)) (fun c1 c2 => ?_) (fun c1 c2 => ?_) (fun c1 c2 => bad (fun q => c2 (e3.mpr (hin.mp q).2)))
  · exact inb_iff.mp (hin.mpr ⟨c1, e3.mp c2⟩)
  · unfold msF
    rw [if_pos (hin.mpr ⟨c1, e3.mp c2⟩)]
    exact mm_Pr
end CMD1
