/-! Contracts of a table's methods. Table t: object 4 + 12 t; cells of column c at 7 + 12 t + c, order of column c at 12 + 12 t + c. -/
abbrev tc (f : mm_F) (t c s : Nat) : Int32 := f (7 + 12 * t + c) s
abbrev to (f : mm_F) (t c p : Nat) : Int32 := f (12 + 12 * t + c) p
section CTB
variable {E : mm_E} {w : mm_W} {f : mm_F} {t : Nat}
theorem c_TB_cellAt {c p q : Nat} (hw : mm_sh w) (ht : t < 4) (hc : c < 4) (hp : p < 48) (hq : to f t c p = nI q) (hq2 : q < 48) :
    mm_C E y_TB_cellAt b_TB_cellAt 3 (some .int) 0 0 0 [mm_rf E (4 + 12 * t), .int (nI c), .int (nI p)] w f (mm_P (some (.int (tc f t c q))) w f) := by
  refine mm_start (by decide) rfl (Nat.le_of_ble_eq_true rfl) fun Γ h he => ?_
  have hq' : f (12 + 12 * t + c) p = nI q := hq
  have e1 := nI_clamp (n := c) (by omega)
  have e2 := nI_clamp (n := p) (by omega)
  have e3 := nI_clamp (n := q) (by omega)
  refine s_TB_cellAt_0 h he (Nat.le_refl _) (Nat.le_refl _) hw ht (mm_inI hc (by omega)) (mm_inI hp (by omega)) ?_ ?_
  · rw [e1, e2, hq']
    exact mm_inI hq2 (by omega)
  · rw [e1, e2, hq', e3]
    exact mm_Pr
theorem c_TB_hasColumn {x : Int32} {n : Nat} (hw : mm_sh w) (ht : t < 4) (hn : f (4 + 12 * t) 0 = nI n) (hn2 : n ≤ 4) :
    mm_C E y_TB_hasColumn b_TB_hasColumn 2 (some .boolean) 0 0 0 [mm_rf E (4 + 12 * t), .int x] w f (mm_P (some (.int (bI (inb x n)))) w f) := by
  refine mm_start (by decide) rfl (Nat.le_of_ble_eq_true rfl) fun Γ h he => ?_
  have hin := inb_cmp (x := x) (n := n) (by omega)
  have z17 : ∀ b : Bool, inb x n = b → mm_go E Γ 2 17 [(0, mm_rf E (4 + 12 * t)), (1, .int x)] [.int (bI b)] w f 0 0 := fun b e =>
    s_TB_hasColumn_17 h he (Nat.le_refl _) (Nat.le_refl _) hw ht (by rw [e]; exact mm_Pr) (mm_b2 (bI_01 b))
  refine s_TB_hasColumn_0 h hw ht (fun c1 => ?_) (fun c1 c2 => ?_) (fun c1 c2 => ?_)
  · refine s_TB_hasColumn_16 h hw ht (z17 false ?_)
    exact Bool.eq_false_iff.mpr fun q => (hin.mp q).1 c1
  · refine s_TB_hasColumn_16 h hw ht (z17 false ?_)
    rw [hn] at c2
    exact Bool.eq_false_iff.mpr fun q => (hin.mp q).2 c2
  · refine z17 true ?_
    rw [hn] at c2
    exact hin.mpr ⟨c1, c2⟩
/-- the order of column c: places below n hold slots below 48, and the cells don't fall -/
def tb_up (f : mm_F) (t c n : Nat) : Prop := (∀ p, p < n → ∃ q, q < 48 ∧ to f t c p = nI q) ∧ ∀ i j, i < j → j < n → tc f t c (to f t c i).toNatClampNeg ≤ tc f t c (to f t c j).toNatClampNeg
/-- the cell at a place of the order -/
abbrev tp (f : mm_F) (t c p : Nat) : Int32 := tc f t c (to f t c p).toNatClampNeg
/-- how many cells lie below -/
def tb_below (f : mm_F) (t c n : Nat) (low : Int32) : Nat := cn (fun p => decide (tp f t c p < low)) n
theorem tb_below_iff {c n : Nat} {low : Int32} (hu : tb_up f t c n) {i : Nat} (hi : i < n) : tp f t c i < low ↔ i < tb_below f t c n low := by
  have h := cn_mono (P := fun p => decide (tp f t c p < low)) (n := n) (fun i j h1 h2 h3 => by
    simp only [decide_eq_true_eq] at h3 ⊢
    exact Int32.lt_of_le_of_lt (hu.2 i j h1 h2) h3) i hi
  unfold tb_below
  simpa using h
theorem c_TB_placeFrom {c n : Nat} {low : Int32} (hw : mm_sh w) (ht : t < 4) (hc : c < 4) (hn : f (4 + 12 * t) 1 = nI n) (hn2 : n ≤ 48) (hu : tb_up f t c n) :
    mm_C E y_TB_placeFrom b_TB_placeFrom 5 (some .int) 1 0 0 [mm_rf E (4 + 12 * t), .int (nI c), .int low] w f (mm_P (some (.int (nI (tb_below f t c n low)))) w f) := by
  refine mm_start (by decide) rfl (Nat.le_of_ble_eq_true rfl) fun Γ h he => ?_
  have hT : tb_below f t c n low ≤ n := cn_le _ _
  have key : ∀ k, k ≤ 5 → ∀ a, a ≤ tb_below f t c n low → tb_below f t c n low < a + 2 ^ (k + 1) →
      mm_go E Γ 5 6 [(0, mm_rf E (4 + 12 * t)), (1, .int (nI c)), (2, .int low), (3, .int (nI a)), (4, .int (nI (2 ^ k)))] [] w f 0 0 := by
    intro k
    induction k with
    | zero =>
      intro hk a h1 h2
      have last : ∀ b, b = tb_below f t c n low → mm_go E Γ 5 42 [(0, mm_rf E (4 + 12 * t)), (1, .int (nI c)), (2, .int low), (3, .int (nI b)), (4, .int (nI (2 ^ 0)))] [] w f 0 0 := by
        intro b hb
        refine s_TB_placeFrom_42 h hw ht ?_
        rw [nI_half0]
        refine s_TB_placeFrom_6 (vl0 := 0) (vc0 := 0) (vs0 := 0) (P0 := fun _ _ _ => False) h he (Nat.le_refl _) (Nat.le_refl _) hw ht (fun _ => by rw [hb]; exact mm_Pr) (fun q => absurd (by decide) q) (by omega) (by omega) (by omega) (fun q => absurd (by decide) q) (fun q => absurd (by decide) q)
      refine s_TB_placeFrom_6 (vl0 := 0) (vc0 := 0) (vs0 := 0) (P0 := mm_P (some (.int (tp f t c a))) w f) h he (Nat.le_refl _) (Nat.le_refl _) hw ht (fun q => absurd q (by decide)) (fun _ c2 => ?_) (by omega) (by omega) (by omega) (fun _ c2 => ?_) (fun _ c2 => ?_)
      · rw [hn, nI_add, nI_ltI (by omega) (by omega)] at c2
        exact last a (by omega)
      · rw [hn, nI_add, nI_ltI (by omega) (by omega)] at c2
        obtain ⟨q, hq, eq⟩ := hu.1 a (by omega)
        have e : nI a + nI (2 ^ 0) - 1 = nI a := by rw [nI_add]; exact nI_pred a
        rw [e]
        have hcell := c_TB_cellAt (E := E) hw ht hc (show a < 48 by omega) eq hq
        rw [show tp f t c a = tc f t c q by show tc f t c (to f t c a).toNatClampNeg = _; rw [eq, nI_clamp (by omega)]]
        exact hcell
      · rw [hn, nI_add, nI_ltI (by omega) (by omega)] at c2
        rintro _ _ _ ⟨rfl, rfl, rfl⟩
        refine s_TB_placeFrom_33 h hw ht (fun c3 => last a ?_) (fun c3 => ?_)
        · have hh := tb_below_iff (low := low) hu (i := a) (by omega)
          have : ¬ a < tb_below _ t c n low := fun q => absurd (hh.mpr q) (Int32.not_lt.mpr c3)
          omega
        · have := (tb_below_iff (low := low) hu (i := a) (by omega)).mp (Int32.not_le.mp c3)
          rw [nI_add]
          exact last (a + 2 ^ 0) (by omega)
    | succ k ih =>
      intro hk a h1 h2
      have go42 : ∀ b, b ≤ tb_below f t c n low → tb_below f t c n low < b + 2 ^ (k + 1) → mm_go E Γ 5 42 [(0, mm_rf E (4 + 12 * t)), (1, .int (nI c)), (2, .int low), (3, .int (nI b)), (4, .int (nI (2 ^ (k + 1))))] [] w f 0 0 := by
        intro b hb1 hb2
        refine s_TB_placeFrom_42 h hw ht ?_
        rw [nI_half k (by omega)]
        exact ih (by omega) b hb1 hb2
      have hs1 : 1 ≤ 2 ^ (k + 1) := Nat.one_le_two_pow
      have hs2 : 2 ^ (k + 1) ≤ 32 := Nat.pow_le_pow_right (by omega) (show k + 1 ≤ 5 by omega)
      have hs3 : 2 ^ (k + 1 + 1) = 2 ^ (k + 1) + 2 ^ (k + 1) := by rw [Nat.pow_succ]; omega
      refine s_TB_placeFrom_6 (vl0 := 0) (vc0 := 0) (vs0 := 0) (P0 := mm_P (some (.int (tp f t c (a + 2 ^ (k + 1) - 1)))) w f) h he (Nat.le_refl _) (Nat.le_refl _) hw ht (fun q => absurd q (nI_nle (by omega) (by omega))) (fun _ c2 => ?_) (by omega) (by omega) (by omega) (fun _ c2 => ?_) (fun _ c2 => ?_)
      · rw [hn, nI_add, nI_ltI (by omega) (by omega)] at c2
        exact go42 a h1 (by omega)
      · rw [hn, nI_add, nI_ltI (by omega) (by omega)] at c2
        obtain ⟨q, hq, eq⟩ := hu.1 (a + 2 ^ (k + 1) - 1) (by omega)
        have e : nI a + nI (2 ^ (k + 1)) - 1 = nI (a + 2 ^ (k + 1) - 1) := by
          rw [nI_add, show a + 2 ^ (k + 1) = (a + 2 ^ (k + 1) - 1) + 1 by omega]
          exact nI_pred _
        rw [e]
        have hcell := c_TB_cellAt (E := E) hw ht hc (show a + 2 ^ (k + 1) - 1 < 48 by omega) eq hq
        rw [show tp f t c (a + 2 ^ (k + 1) - 1) = tc f t c q by show tc f t c (to f t c (a + 2 ^ (k + 1) - 1)).toNatClampNeg = _; rw [eq, nI_clamp (by omega)]]
        exact hcell
      · rw [hn, nI_add, nI_ltI (by omega) (by omega)] at c2
        rintro _ _ _ ⟨rfl, rfl, rfl⟩
        refine s_TB_placeFrom_33 h hw ht (fun c3 => go42 a h1 ?_) (fun c3 => ?_)
        · have hh := tb_below_iff (low := low) hu (i := a + 2 ^ (k + 1) - 1) (by omega)
          have : ¬ a + 2 ^ (k + 1) - 1 < tb_below _ t c n low := fun q => absurd (hh.mpr q) (Int32.not_lt.mpr c3)
          omega
        · have := (tb_below_iff (low := low) hu (i := a + 2 ^ (k + 1) - 1) (by omega)).mp (Int32.not_le.mp c3)
          rw [nI_add]
          exact go42 _ (by omega) (by omega)
  refine s_TB_placeFrom_0 h hw ht ?_
  exact key 5 (Nat.le_refl _) 0 (Nat.zero_le _) (by show _ < 0 + 64; omega)
end CTB
