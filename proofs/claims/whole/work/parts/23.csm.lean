/-! Contracts of Tables and Output. -/
def smN (n : Nat → Nat) : Nat → Nat
  | 0 => 0
  | k + 1 => smN n k + n k
theorem smN_le {n : Nat → Nat} {b : Nat} : ∀ {k : Nat}, (∀ t, t < k → n t ≤ b) → smN n k ≤ k * b
  | 0, _ => by simp [smN]
  | k + 1, h => by
    have h1 := smN_le (n := n) (b := b) (k := k) (fun t ht => h t (by omega))
    have h2 := h k (by omega)
    show smN n k + n k ≤ (k + 1) * b
    rw [Nat.succ_mul]
    omega
/-- the cells of the row laid into the output from cell u on -/
def ocp (f : mm_F) (r u k : Nat) : mm_F := fun a j => if a = 135 ∧ u ≤ j ∧ j < u + k then f r (j - u) else f a j
section CSM
variable {E : mm_E} {w : mm_W} {f : mm_F}
theorem c_TS_has {x : Int32} {n : Nat} (hw : mm_sh w) (hn : f 2 1 = nI n) (hn2 : n ≤ 4) :
    mm_C E y_TS_has b_TS_has 2 (some .boolean) 0 0 0 [mm_rf E 2, .int x] w f (mm_P (some (.int (bI (inb x n)))) w f) := by
  refine mm_start (by decide) rfl (Nat.le_of_ble_eq_true rfl) fun Γ h he => ?_
  have hin := inb_cmp (x := x) (n := n) (by omega)
  have z17 : ∀ b : Bool, inb x n = b → mm_go E Γ 2 17 [(0, mm_rf E 2), (1, .int x)] [.int (bI b)] w f 0 0 := fun b e =>
    s_TS_has_17 h he (Nat.le_refl _) (Nat.le_refl _) hw (by rw [e]; exact mm_Pr) (mm_b2 (bI_01 b))
  refine s_TS_has_0 h hw (fun c1 => ?_) (fun c1 c2 => ?_) (fun c1 c2 => ?_)
  · refine s_TS_has_16 h hw (z17 false ?_)
    exact Bool.eq_false_iff.mpr fun q => (hin.mp q).1 c1
  · refine s_TS_has_16 h hw (z17 false ?_)
    rw [hn] at c2
    exact Bool.eq_false_iff.mpr fun q => (hin.mp q).2 c2
  · refine z17 true ?_
    rw [hn] at c2
    exact hin.mpr ⟨c1, c2⟩
theorem c_TS_make {x : Int32} {n : Nat} (hw : mm_sh w) (hn : f 2 1 = nI n) (hn2 : n < 4) :
    mm_C E y_TS_make b_TS_make 3 (some .int) 0 0 0 [mm_rf E 2, .int x] w f (mm_P (some (.int (nI n))) w (mm_up (mm_up (mm_up f (4 + 12 * n) 0 x) (5 + 12 * n) 0 1) 2 1 (nI (n + 1)))) := by
  refine mm_start (by decide) rfl (Nat.le_of_ble_eq_true rfl) fun Γ h he => ?_
  have e1 := nI_clamp (n := n) (by omega)
  refine s_TS_make_0 h he (Nat.le_refl _) (Nat.le_refl _) hw (by rw [hn]; exact mm_inI hn2 (by omega)) ?_
  rw [hn, e1, mm_up_ne _ _ (by omega), mm_up_ne _ _ (by omega), hn, nI_1]
  exact mm_Pr
theorem c_TS_rowsInAll {m : Nat} {n : Nat → Nat} (hw : mm_sh w) (hm : f 2 1 = nI m) (hm2 : m ≤ 4) (hn : ∀ t, t < m → f (4 + 12 * t) 1 = nI (n t) ∧ n t ≤ 48) :
    mm_C E y_TS_rowsInAll b_TS_rowsInAll 3 (some .int) 0 0 0 [mm_rf E 2] w f (mm_P (some (.int (nI (smN n m)))) w f) := by
  refine mm_start (by decide) rfl (Nat.le_of_ble_eq_true rfl) fun Γ h he => ?_
  have loop : ∀ d k, k + d = m → mm_go E Γ 3 4 [(0, mm_rf E 2), (1, .int (nI (smN n k))), (2, .int (nI k))] [] w f 0 0 := by
    intro d
    induction d with
    | zero =>
      intro k hk
      have hk' : k = m := by omega
      subst hk'
      refine s_TS_rowsInAll_4 h he (Nat.le_refl _) (Nat.le_refl _) hw (fun _ => mm_Pr) (fun q => ?_) (fun q => ?_)
      all_goals (rw [hm] at q; exact absurd (Int32.le_refl _) q)
    | succ d ih =>
      intro k hk
      have ek := nI_clamp (n := k) (by omega)
      refine s_TS_rowsInAll_4 h he (Nat.le_refl _) (Nat.le_refl _) hw (fun q => ?_) (fun q => mm_inI (by omega) (by omega)) (fun q => ?_)
      · rw [hm, nI_leI (by omega) (by omega)] at q; omega
      · rw [ek, (hn k (by omega)).1, nI_add, nI_1]
        exact ih (k + 1) (by omega)
  exact s_TS_rowsInAll_0 h hw (loop m 0 (by omega))
theorem c_OP_empty (hw : mm_sh w) : mm_C E y_OP_empty b_OP_empty 1 none 0 0 0 [mm_rf E 134] w f (mm_P none w (mm_up (mm_up f 134 1 0) 134 2 0)) := by
  refine mm_start (by decide) rfl (Nat.le_of_ble_eq_true rfl) fun Γ h he => ?_
  exact s_OP_empty_0 h he (Nat.le_refl _) (Nat.le_refl _) hw mm_Pr
theorem c_OP_add {n u k : Nat} (hw : mm_sh w) (hr : mm_run w n) (hu : f 134 1 = nI u) (hu2 : u ≤ 64) (hk : k ≤ 8) :
    mm_C E y_OP_add b_OP_add 4 (some .boolean) 0 0 0 [mm_rf E 134, mm_rf E (n + 1), .int (nI k)] w f
      (if u + k ≤ 64 then mm_P (some (.int 1)) w (mm_up (mm_up (ocp f (n + 1) u k) 134 1 (nI (u + k))) 134 2 (f 134 2 + 1)) else mm_P (some (.int 0)) w f) := by
  refine mm_start (by decide) rfl (Nat.le_of_ble_eq_true rfl) fun Γ h he => ?_
  have hN : 153 ≤ n := hr.1
  have h64 : (64 : Int32) = nI 64 := by decide
  refine s_OP_add_0 h he (Nat.le_refl _) (Nat.le_refl _) hw hr (fun c1 => ?_) (fun c1 => ?_)
  · rw [hu, nI_add, h64, nI_leI (by omega) (by omega)] at c1
    rw [if_pos c1] at he
    have loop : ∀ d j, j + d = k → mm_go E Γ 4 15 [(0, mm_rf E 134), (1, mm_rf E (n + 1)), (2, .int (nI k)), (3, .int (nI j))] [] w (ocp f (n + 1) u j) 0 0 := by
      intro d
      induction d with
      | zero =>
        intro j hj
        have hj' : j = k := by omega
        subst hj'
        have e1 : ocp f (n + 1) u j 134 1 = nI u := by unfold ocp; rw [if_neg (by omega)]; exact hu
        have e2 : ocp f (n + 1) u j 134 2 = f 134 2 := by unfold ocp; rw [if_neg (by omega)]
        refine s_OP_add_15 h he (Nat.le_refl _) (Nat.le_refl _) hw hr (fun _ => ?_) (fun q => ?_) (fun q => ?_) (fun q => ?_)
        · rw [e1, nI_add, mm_up_ne _ _ (by omega), e2]
          exact mm_Pr
        all_goals exact absurd (Int32.le_refl _) q
      | succ d ih =>
        intro j hj
        have ej := nI_clamp (n := j) (by omega)
        have eu := nI_clamp (n := u + j) (by omega)
        have e1 : ocp f (n + 1) u j 134 1 = nI u := by unfold ocp; rw [if_neg (by omega)]; exact hu
        refine s_OP_add_15 h he (Nat.le_refl _) (Nat.le_refl _) hw hr (fun q => ?_) (fun q => mm_inI (by omega) (by omega)) (fun q => ?_) (fun q => ?_)
        · rw [nI_leI (by omega) (by omega)] at q; omega
        · rw [e1, nI_add]; exact mm_inI (by omega) (by omega)
        · rw [e1, nI_add, nI_1, ej, eu]
          have : mm_up (ocp f (n + 1) u j) 135 (u + j) (ocp f (n + 1) u j (n + 1) j) = ocp f (n + 1) u (j + 1) := by
            funext a i
            unfold mm_up ocp
            by_cases h1 : a = 135 ∧ i = u + j
            · obtain ⟨rfl, rfl⟩ := h1
              rw [if_pos ⟨rfl, rfl⟩, if_neg (by omega), if_pos (by omega), show u + j - u = j by omega]
            · rw [if_neg h1]
              by_cases h2 : a = 135 ∧ u ≤ i ∧ i < u + j
              · rw [if_pos h2, if_pos (by omega)]
              · rw [if_neg h2, if_neg (by omega)]
          rw [this]
          exact ih (j + 1) (by omega)
    have h0 := loop k 0 (by omega)
    have : ocp f (n + 1) u 0 = f := by
      funext a i
      unfold ocp
      rw [if_neg (by omega)]
    rw [this] at h0
    exact h0
  · rw [hu, nI_add, h64, nI_leI (by omega) (by omega)] at c1
    rw [if_neg c1]
    exact mm_Pr
end CSM
