/-! The law: what is known at its start. -/
theorem nm_inst {k : Nat} {q : vw_C} (h : nm_cl[k]? = some q) : ∃ n, Cond.instantiable q.1 n ∈ nm_tb := by
  match k, h with
  | 0, h => cases h; exact ⟨_, nw_18⟩
  | 1, h => cases h; exact ⟨_, in_TS⟩
  | 2, h => cases h; exact ⟨_, in_TB⟩
  | 3, h => cases h; exact ⟨_, in_PN⟩
  | 4, h => cases h; exact ⟨_, in_SP⟩
  | 5, h => cases h; exact ⟨_, in_OP⟩
  | 6, h => cases h; exact ⟨_, in_RN⟩
  | 7, h => cases h; exact ⟨_, nw_622⟩
  | 8, h => cases h; exact ⟨_, xc_IA.2.2.1⟩
  | 9, h => cases h; exact ⟨_, xc_UO.2.2.1⟩
  | 10, h => cases h; exact ⟨_, xc_IO.2.2.1⟩
  | 11, h => cases h; exact ⟨_, xc_IS.2.2.1⟩
  | 12, h => cases h; exact ⟨_, xc_NS.2.2.1⟩
  | k + 13, h => exact absurd (List.getElem?_eq_some_iff.mp h).1 (by show ¬ k + 13 < 13; omega)
theorem wd_over : ∀ C ∈ nm_ao, Cond.arrayOver (.object C) ∈ tables_1 := by decide +kernel
theorem wd_overA : Cond.arrayOver (.array .int) ∈ tables_1 := by decide +kernel
theorem wd_nest : ∀ q ∈ nm_nw, Cond.methodLinkNest q.1 q.2.1 q.2.2.1 q.2.2.2 ∈ tables_1 := by decide +kernel
theorem wd_dec : ∀ x ∈ xw_dec, Cond.declares x ∈ tables_1 := by decide +kernel
theorem wd_cast : ∀ C ∈ xw_cls, Cond.castable C C ∈ tables_1 := by decide +kernel
theorem wd_sta : ∀ q ∈ xw_sta, Cond.laysStatic Bundle.tN q.1 q.2 ∈ tables_1 := by decide +kernel
theorem wd_str : ∀ q ∈ xw_str, Cond.stringRef "PlannedTables" q.1 q.2 ∈ tables_1 := by decide +kernel
theorem lw_known {s : State} {args : Array Value} (hts : ∀ w ∈ lw_tbl, w.before args s = true) : ∃ D : va_G, mm_K D s := by
  have hT : ∀ w ∈ nm_tb, w.before args s = true := fun w hw => hts w (List.mem_filter.mp hw).1
  have hU : ∀ w ∈ tables_1, w.before args s = true := fun w hw => hts w (List.mem_append_right _ hw)
  have A : ∀ k : Nat, ∃ (cC : ClassId) (iS : Nat → Nat), ∀ q, nm_cl[k]? = some q → u_Kn s q.1 q.2.1 q.2.2 cC iS := by
    intro k
    cases e : nm_cl[k]? with
    | none => exact ⟨0, fun _ => 0, fun q h => by cases h⟩
    | some q =>
      obtain ⟨n, hn⟩ := nm_inst e
      obtain ⟨C, T, N⟩ := q
      obtain ⟨cC, iS, h⟩ := u_known hT (nm_lay e) (hT _ hn)
      exact ⟨cC, iS, fun q' h' => by cases h'; exact h⟩
  have prim : ∀ ty : FieldType, Cond.arrayClass ty ∈ nm_tb → ∃ cA : ClassId, ArrOfT s cA ty ∧ s.vm.findClass ("[" ++ ty.toString) = some cA := fun ty h => by
    obtain ⟨cB, kB, comp, h1, h2, h3⟩ := Cond.arrayClass_spec (hT _ h)
    exact ⟨cB, fun n z => ⟨fun k h => (by cases h), kB, h2, comp, h3⟩, h1⟩
  have over : ∀ C ∈ nm_ao, ∃ cA : ClassId, ArrOfT s cA (.object C) ∧ va_RA s cA (.object C) := fun C h => by
    obtain ⟨comp, c, k, h1, h2, h3, h4, h5⟩ := Cond.arrayOver_spec (hU _ (wd_over C h))
    exact ⟨c, fun n z => ⟨fun k h => (by cases h), k, h3, comp, h4⟩, k, comp, h3, h4, h1, h5⟩
  have B : ∀ k : Nat, ∃ cA : ClassId, ∀ ty, nm_at[k]? = some ty → ArrOfT s cA ty ∧ va_RA s cA ty := by
    intro k
    match k with
    | 0 =>
      obtain ⟨c, h⟩ := prim .int ac_int
      exact ⟨c, fun ty e => by cases e; exact h⟩
    | 1 =>
      obtain ⟨c, h⟩ := prim .boolean ac_boolean
      exact ⟨c, fun ty e => by cases e; exact h⟩
    | 2 =>
      obtain ⟨c, h⟩ := prim .long ac_long
      exact ⟨c, fun ty e => by cases e; exact h⟩
    | 3 =>
      obtain ⟨comp, c, k, h1, h2, h3, h4, h5⟩ := arrayOverA_spec (hU _ wd_overA)
      exact ⟨c, fun ty e => by cases e; exact ⟨fun n z => ⟨fun k h => (by cases h), k, h3, comp, h4⟩, h5⟩⟩
    | 4 =>
      obtain ⟨c, h⟩ := over "PlannedTables$Table" (List.mem_of_getElem? (i := 0) rfl)
      exact ⟨c, fun ty e => by cases e; exact h⟩
    | 5 =>
      obtain ⟨c, h⟩ := over "PlannedTables$Step" (List.mem_of_getElem? (i := 1) rfl)
      exact ⟨c, fun ty e => by cases e; exact h⟩
    | k + 6 => exact ⟨0, fun ty e => absurd (List.getElem?_eq_some_iff.mp e).1 (by show ¬ k + 6 < 6; omega)⟩
  refine ⟨(fun k => if k < 100 then Classical.choose (A k) else Classical.choose (B (k - 100)), fun k => Classical.choose (Classical.choose_spec (A k))), fun k q hq => ?_, fun k ty hk => ?_, fun q hq => va_Nw.of rfl (hU _ (wd_nest q hq)), fun C hC => va_AO.of (hU _ (wd_over C hC)), hU _ wd_overA⟩
  · show u_Kn s q.1 q.2.1 q.2.2 (if k < 100 then Classical.choose (A k) else Classical.choose (B (k - 100))) _
    rw [if_pos (mm_lt100 hq)]
    exact Classical.choose_spec (Classical.choose_spec (A k)) q hq
  · show ArrOfT s (if 100 + k < 100 then Classical.choose (A (100 + k)) else Classical.choose (B (100 + k - 100))) ty ∧ va_RA s (if 100 + k < 100 then Classical.choose (A (100 + k)) else Classical.choose (B (100 + k - 100))) ty
    rw [if_neg (by omega), show 100 + k - 100 = k by omega]
    exact Classical.choose_spec (B k) ty hk
theorem lw_exc {s : State} {b : Nat} (hts : ∀ w ∈ lw_tbl, w.before #[Value.ref b] s = true) (hg : (Jvm.Cond.and given_1 narrow_1).before #[Value.ref b] s = true) : mm_X s := by
  have hU : ∀ w ∈ tables_1, w.before #[Value.ref b] s = true := fun w hw => hts w (List.mem_append_right _ hw)
  have hf := flat_of_before _ hg
  have hW := State.WarmedH.refl s
  have hh : ∀ (q : Nat) (c : Cell), s.heap[q]? = some c → c.vm.isStatics = true → s.heap[q]? = some c := fun _ _ h _ => h
  have hN : ∀ C ∈ xw_cls, ∀ C' ∈ xw_cls, C ≠ C' → Cond.not (Cond.castable C C') ∈ flatC (Jvm.Cond.and given_1 narrow_1) := by decide +kernel
  have hR : ∀ q ∈ xw_sta, Cond.isRef (.static Bundle.tN q.1 q.2) ∈ flatC (Jvm.Cond.and given_1 narrow_1) := by decide +kernel
  exact ⟨fun x hx => x_dec hW (hU _ (wd_dec x hx)), fun C hC => x_cast hW (hU _ (wd_cast C hC)), fun C hC C' hC' hne => x_not hW (hf _ (hN C hC C' hC' hne)), fun q hq => ⟨x_lay hW hh (hU _ (wd_sta q hq)), x_ref hW hh (hf _ (hR q hq))⟩, fun q hq => x_str hW (hU _ (wd_str q hq))⟩
