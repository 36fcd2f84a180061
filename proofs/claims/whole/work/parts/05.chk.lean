/-! What the tables of names say, decided once. -/
def nm_chk (k j : Nat) : Bool := match nm_cl[k]? with
  | some q => decide (u_lay q.1 q.2.1 j ∈ tables_1) && (goodWord (u_lay q.1 q.2.1 j) && (decide (parseFieldDescriptor (q.2.1 j).2.2.1 = some (nm_ty k j)) && (decide (defaultValue (nm_ty k j) = mm_v 0 (nm_t k j) 0 0 0) && ((nm_fin k j == (q.2.1 j).2.2.2) && (List.range q.2.2).all (fun i => i == j || (q.2.1 i).2.1 != (q.2.1 j).2.1)))))
  | none => false
theorem nm_c0 : ∀ j, j < 5 → nm_chk 0 j = true := by decide +kernel
theorem nm_c1 : ∀ j, j < 2 → nm_chk 1 j = true := by decide +kernel
theorem nm_c2 : ∀ j, j < 5 → nm_chk 2 j = true := by decide +kernel
theorem nm_c3 : ∀ j, j < 7 → nm_chk 3 j = true := by decide +kernel
theorem nm_c4 : ∀ j, j < 10 → nm_chk 4 j = true := by decide +kernel
theorem nm_c5 : ∀ j, j < 3 → nm_chk 5 j = true := by decide +kernel
theorem nm_c6 : ∀ j, j < 6 → nm_chk 6 j = true := by decide +kernel
theorem nm_c7 : ∀ j, j < 32 → nm_chk 7 j = true := by decide +kernel
theorem nm_k13 {k : Nat} {q : vw_C} (h : nm_cl[k]? = some q) : k < 13 := (List.getElem?_eq_some_iff.mp h).1
theorem nm_Nk {k : Nat} {q : vw_C} (h : nm_cl[k]? = some q) : nm_N k = q.2.2 := by
  have hk := nm_k13 h
  have h2 : ∀ k, k < 13 → nm_cl[k]?.map (fun q => q.2.2) = some (nm_N k) := by decide +kernel
  have h3 := h2 k hk
  rw [h] at h3
  exact (Option.some.inj h3).symm
theorem nm_nmk {k : Nat} {q : vw_C} (h : nm_cl[k]? = some q) : nm_nm k = q.1 := by
  have hk := nm_k13 h
  have h2 : ∀ k, k < 13 → nm_cl[k]?.map (fun q => q.1) = some (nm_nm k) := by decide +kernel
  have h3 := h2 k hk
  rw [h] at h3
  exact (Option.some.inj h3).symm
theorem nm_ck : ∀ k j, j < nm_N k → nm_chk k j = true := by
  intro k j hj
  have hk : k < 8 := by
    refine Nat.lt_of_not_le fun h => ?_
    have : nm_N k = 0 := by
      unfold nm_N
      rw [List.getElem?_eq_none (by simpa using h)]
      rfl
    omega
  match k, hk with
  | 0, _ => exact nm_c0 j hj
  | 1, _ => exact nm_c1 j hj
  | 2, _ => exact nm_c2 j hj
  | 3, _ => exact nm_c3 j hj
  | 4, _ => exact nm_c4 j hj
  | 5, _ => exact nm_c5 j hj
  | 6, _ => exact nm_c6 j hj
  | 7, _ => exact nm_c7 j hj
theorem nm_of {k j : Nat} {C : String} {T : u_T} {N : Nat} (h : nm_cl[k]? = some (C, T, N)) (hj : j < N) : u_lay C T j ∈ nm_tb ∧ parseFieldDescriptor (T j).2.2.1 = some (nm_ty k j) ∧ defaultValue (nm_ty k j) = mm_v 0 (nm_t k j) 0 0 0 ∧ nm_fin k j = (T j).2.2.2 ∧ ∀ i, i < N → i ≠ j → (T i).2.1 ≠ (T j).2.1 := by
  have h1 := nm_ck k j (by rw [nm_Nk h]; exact hj)
  unfold nm_chk at h1
  rw [h] at h1
  simp only [Bool.and_eq_true, decide_eq_true_eq, beq_iff_eq, List.all_eq_true, List.mem_range, Bool.or_eq_true, bne_iff_ne, ne_eq] at h1
  obtain ⟨a1, a2, a3, a4, a5, a6⟩ := h1
  exact ⟨nm_in a1 a2, a3, a4, a5, fun i hi hne => (a6 i hi).resolve_left hne⟩
theorem nm_lay {k : Nat} {C : String} {T : u_T} {N : Nat} (h : nm_cl[k]? = some (C, T, N)) : ∀ x ∈ u_ws C T N, x ∈ nm_tb := by
  intro x hx
  obtain ⟨j, hj, rfl⟩ := List.mem_map.mp hx
  exact (nm_of h (List.mem_range.mp hj)).1
theorem nm_tyk {k j : Nat} {C : String} {T : u_T} {N : Nat} (h : nm_cl[k]? = some (C, T, N)) (hj : j < N) : parseFieldDescriptor (T j).2.2.1 = some (nm_ty k j) := (nm_of h hj).2.1
theorem nm_dfl {k j : Nat} {C : String} {T : u_T} {N : Nat} (h : nm_cl[k]? = some (C, T, N)) (hj : j < N) : defaultValue (nm_ty k j) = mm_v 0 (nm_t k j) 0 0 0 := (nm_of h hj).2.2.1
theorem nm_fink {k j : Nat} {C : String} {T : u_T} {N : Nat} (h : nm_cl[k]? = some (C, T, N)) (hj : j < N) : nm_fin k j = (T j).2.2.2 := (nm_of h hj).2.2.2.1
theorem nm_nam {k x y : Nat} {C : String} {T : u_T} {N : Nat} (h : nm_cl[k]? = some (C, T, N)) (hx : x < N) (hy : y < N) (hne : x ≠ y) : (T x).2.1 ≠ (T y).2.1 := (nm_of h hy).2.2.2.2 x hx hne
