/-! Pure: a table is made in class and reference. -/
theorem cn_none {P : Nat → Bool} : ∀ n, (∀ i, i < n → P i = false) → cn P n = 0
  | 0, _ => rfl
  | n + 1, h => by
    show cn P n + (if P n = true then 1 else 0) = 0
    rw [cn_none n (fun i hi => h i (by omega)), h n (by omega)]
    rfl
theorem table_both {f : mm_F} {m R k : Nat} {n cl : Nat → Nat} (hT : TT f m n cl) (hR : RT f m R n cl) (hm : m < 4) (hk1 : 1 ≤ k) (hk : k ≤ 4) :
    TT (mm_up (mm_up (mm_up (mm_up (mm_up (mm_up (mm_up f (4 + 12 * m) 0 (nI k)) (5 + 12 * m) 0 1) 2 1 (nI (m + 1))) 136 0 0) 137 m (nI k)) 138 (4 * m) 1) 136 1 (nI (m + 1))) (m + 1) (fun u => if u = m then 0 else n u) (fun u => if u = m then k else cl u) ∧
    RT (mm_up (mm_up (mm_up (mm_up (mm_up (mm_up (mm_up f (4 + 12 * m) 0 (nI k)) (5 + 12 * m) 0 1) 2 1 (nI (m + 1))) 136 0 0) 137 m (nI k)) 138 (4 * m) 1) 136 1 (nI (m + 1))) (m + 1) R (fun u => if u = m then 0 else n u) (fun u => if u = m then k else cl u) := by
  obtain ⟨t1, t2, t3, t4⟩ := hT
  obtain ⟨r1, r2, r3, r4, r5, r6, r7, r8, r9, r10⟩ := hR
  have row : ∀ a, a ≠ 4 + 12 * m → a ≠ 5 + 12 * m → a ≠ 2 → a ≠ 136 → a ≠ 137 → a ≠ 138 → (mm_up (mm_up (mm_up (mm_up (mm_up (mm_up (mm_up f (4 + 12 * m) 0 (nI k)) (5 + 12 * m) 0 1) 2 1 (nI (m + 1))) 136 0 0) 137 m (nI k)) 138 (4 * m) 1) 136 1 (nI (m + 1))) a = f a := fun a e1 e2 e3 e4 e5 e6 => by
    rw [mm_up_off _ _ e4, mm_up_off _ _ e6, mm_up_off _ _ e5, mm_up_off _ _ e4, mm_up_off _ _ e3, mm_up_off _ _ e2, mm_up_off _ _ e1]
  have k0 : (mm_up (mm_up (mm_up (mm_up (mm_up (mm_up (mm_up f (4 + 12 * m) 0 (nI k)) (5 + 12 * m) 0 1) 2 1 (nI (m + 1))) 136 0 0) 137 m (nI k)) 138 (4 * m) 1) 136 1 (nI (m + 1))) (4 + 12 * m) 0 = nI k := by
    rw [mm_up_ne _ _ (by omega), mm_up_ne _ _ (by omega), mm_up_ne _ _ (by omega), mm_up_ne _ _ (by omega), mm_up_ne _ _ (by omega), mm_up_ne _ _ (by omega), mm_up_eq]
  have k1 : (mm_up (mm_up (mm_up (mm_up (mm_up (mm_up (mm_up f (4 + 12 * m) 0 (nI k)) (5 + 12 * m) 0 1) 2 1 (nI (m + 1))) 136 0 0) 137 m (nI k)) 138 (4 * m) 1) 136 1 (nI (m + 1))) (4 + 12 * m) 1 = f (4 + 12 * m) 1 := by
    rw [mm_up_ne _ _ (by omega), mm_up_ne _ _ (by omega), mm_up_ne _ _ (by omega), mm_up_ne _ _ (by omega), mm_up_ne _ _ (by omega), mm_up_ne _ _ (by omega), mm_up_ne _ _ (by omega)]
  have k2 : (mm_up (mm_up (mm_up (mm_up (mm_up (mm_up (mm_up f (4 + 12 * m) 0 (nI k)) (5 + 12 * m) 0 1) 2 1 (nI (m + 1))) 136 0 0) 137 m (nI k)) 138 (4 * m) 1) 136 1 (nI (m + 1))) 2 1 = nI (m + 1) := by
    rw [mm_up_ne _ _ (by omega), mm_up_ne _ _ (by omega), mm_up_ne _ _ (by omega), mm_up_ne _ _ (by omega), mm_up_eq]
  have k5 : (mm_up (mm_up (mm_up (mm_up (mm_up (mm_up (mm_up f (4 + 12 * m) 0 (nI k)) (5 + 12 * m) 0 1) 2 1 (nI (m + 1))) 136 0 0) 137 m (nI k)) 138 (4 * m) 1) 136 1 (nI (m + 1))) 136 5 = f 136 5 := by
    rw [mm_up_ne _ _ (by omega), mm_up_ne _ _ (by omega), mm_up_ne _ _ (by omega), mm_up_ne _ _ (by omega), mm_up_ne _ _ (by omega), mm_up_ne _ _ (by omega), mm_up_ne _ _ (by omega)]
  have k7 : ∀ u, (mm_up (mm_up (mm_up (mm_up (mm_up (mm_up (mm_up f (4 + 12 * m) 0 (nI k)) (5 + 12 * m) 0 1) 2 1 (nI (m + 1))) 136 0 0) 137 m (nI k)) 138 (4 * m) 1) 136 1 (nI (m + 1))) 137 u = if u = m then nI k else f 137 u := fun u => by
    rw [mm_up_ne _ _ (by omega), mm_up_ne _ _ (by omega)]
    by_cases z : u = m
    · rw [if_pos z, z, mm_up_eq]
    · rw [if_neg z, mm_up_ne _ _ (by omega), mm_up_ne _ _ (by omega), mm_up_ne _ _ (by omega), mm_up_ne _ _ (by omega), mm_up_ne _ _ (by omega)]
  have k8 : ∀ j, (mm_up (mm_up (mm_up (mm_up (mm_up (mm_up (mm_up f (4 + 12 * m) 0 (nI k)) (5 + 12 * m) 0 1) 2 1 (nI (m + 1))) 136 0 0) 137 m (nI k)) 138 (4 * m) 1) 136 1 (nI (m + 1))) 138 j = if j = 4 * m then 1 else f 138 j := fun j => by
    rw [mm_up_ne _ _ (by omega)]
    by_cases z : j = 4 * m
    · rw [if_pos z, z, mm_up_eq]
    · rw [if_neg z, mm_up_ne _ _ (by omega), mm_up_ne _ _ (by omega), mm_up_ne _ _ (by omega), mm_up_ne _ _ (by omega), mm_up_ne _ _ (by omega), mm_up_ne _ _ (by omega)]
  have k9 : ∀ u c, u < 4 → (mm_up (mm_up (mm_up (mm_up (mm_up (mm_up (mm_up f (4 + 12 * m) 0 (nI k)) (5 + 12 * m) 0 1) 2 1 (nI (m + 1))) 136 0 0) 137 m (nI k)) 138 (4 * m) 1) 136 1 (nI (m + 1))) (5 + 12 * u) c = if u = m ∧ c = 0 then 1 else f (5 + 12 * u) c := fun u c hu => by
    rw [mm_up_ne _ _ (by omega), mm_up_ne _ _ (by omega), mm_up_ne _ _ (by omega), mm_up_ne _ _ (by omega), mm_up_ne _ _ (by omega)]
    by_cases z : u = m ∧ c = 0
    · rw [if_pos z, z.1, z.2, mm_up_eq]
    · rw [if_neg z, mm_up_ne _ _ (by omega), mm_up_ne _ _ (by omega)]
  have kw1 : (mm_up (mm_up (mm_up (mm_up (mm_up (mm_up (mm_up f (4 + 12 * m) 0 (nI k)) (5 + 12 * m) 0 1) 2 1 (nI (m + 1))) 136 0 0) 137 m (nI k)) 138 (4 * m) 1) 136 1 (nI (m + 1))) 136 1 = nI (m + 1) := mm_up_eq _ _ _ _
  generalize mm_up (mm_up (mm_up (mm_up (mm_up (mm_up (mm_up f (4 + 12 * m) 0 (nI k)) (5 + 12 * m) 0 1) 2 1 (nI (m + 1))) 136 0 0) 137 m (nI k)) 138 (4 * m) 1) 136 1 (nI (m + 1)) = g at *
  have no : ∀ r, r < R → ¬ f 140 r = nI m := fun r hr e => by
    obtain ⟨u, u1, u2⟩ := r10 r hr
    have := nI_inj (by omega) (by omega) (u2.symm.trans e)
    omega
  refine ⟨⟨k2, by omega, fun u hu => ?_, fun u hu hu4 => ?_⟩, ⟨kw1, by rw [k5]; exact r2, r3, ?_, fun u hu => ?_, fun u c hu hc => ?_, fun c hc => ?_, fun u hu => ?_, ?_, fun r hr => ?_⟩⟩
  · by_cases z : u = m
    · simp only [if_pos z]
      subst z
      refine ⟨k0, hk1, hk, by rw [k1]; exact t4 u (Nat.le_refl _) hm, by omega, fun _ => [], fun c hc => ⟨rfl, fun p hp => absurd hp (by simp), fun x => by simp, List.Pairwise.nil⟩⟩
    · simp only [if_neg z]
      obtain ⟨d1, d2, d3, d4, d5, LL, d6⟩ := t3 u (by omega)
      rw [row (4 + 12 * u) (by omega) (by omega) (by omega) (by omega) (by omega) (by omega)]
      exact ⟨d1, d2, d3, d4, d5, LL, fun c hc => (d6 c hc).congr (row _ (by omega) (by omega) (by omega) (by omega) (by omega) (by omega)) (row _ (by omega) (by omega) (by omega) (by omega) (by omega) (by omega)) (row _ (by omega) (by omega) (by omega) (by omega) (by omega) (by omega))⟩
  · rw [row (4 + 12 * u) (by omega) (by omega) (by omega) (by omega) (by omega) (by omega)]; exact t4 u (by omega) hu4
  · have := (smN_up (n := n) (t := m) (x := 0) m).1 (Nat.le_refl _)
    show smN _ m + (if m = m then 0 else n m) = R
    rw [if_pos rfl, this]; exact r4
  · rw [k7]
    by_cases z : u = m
    · simp only [if_pos z]
    · simp only [if_neg z]; exact r5 u (by omega)
  · rw [k8, k9 u c hu]
    by_cases z : u = m ∧ c = 0
    · rw [if_pos z, if_pos (by omega)]
    · rw [if_neg z, if_neg (by omega)]; exact r6 u c hu hc
  · rw [row 139 (by omega) (by omega) (by omega) (by omega) (by omega) (by omega), row 52 (by omega) (by omega) (by omega) (by omega) (by omega) (by omega)]; exact r7 c hc
  · have q0 := row 140 (by omega) (by omega) (by omega) (by omega) (by omega) (by omega)
    have q1 := row 141 (by omega) (by omega) (by omega) (by omega) (by omega) (by omega)
    by_cases z : u = m
    · simp only [if_pos z]
      subst z
      refine ⟨fun s hs => by omega, fun r hr e => ?_, ?_⟩
      · rw [q0] at e
        exact absurd e (no r hr)
      · unfold ofN
        rw [q0]
        exact cn_none R (fun i hi => decide_eq_false (no i hi))
    · simp only [if_neg z]
      have d3 := (t3 u (by omega)).2.2.1
      exact (r8 u (by omega)).congr (fun c hc => row _ (by omega) (by omega) (by omega) (by omega) (by omega) (by omega)) q0 q1
  · intro r r' hr hr' e1 e2
    rw [row 140 (by omega) (by omega) (by omega) (by omega) (by omega) (by omega)] at e1
    rw [row 141 (by omega) (by omega) (by omega) (by omega) (by omega) (by omega)] at e2
    exact r9 r r' hr hr' e1 e2
  · obtain ⟨u, u1, u2⟩ := r10 r hr
    exact ⟨u, by omega, by rw [row 140 (by omega) (by omega) (by omega) (by omega) (by omega) (by omega)]; exact u2⟩
