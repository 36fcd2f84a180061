/-! Pure: a row comes to groups, class beside reference. -/
theorem groups_give {f g : mm_F} {n s : Nat} {x : Int32} (hn : 153 ≤ n) (hs : s < 39) (ht : f (56 + 2 * s) 7 = g 147 s) (hh : f (56 + 2 * s) 7 = 0 ↔ g 149 s = 0) (hk : ¬ g 149 s = 0 → f (57 + 2 * s) 0 = g 148 s) (hx : x = g 146 (pw g s 0).toNatClampNeg) :
    (agF f n s x).2 = (rnF g s).2 ∧ (agF f n s x).1 (56 + 2 * s) 7 = (rnF g s).1 147 s ∧ (agF f n s x).1 (57 + 2 * s) 0 = (rnF g s).1 148 s ∧ ¬ (rnF g s).1 149 s = 0 ∧ ((rnF g s).2 = 1 → rowA (agF f n s x).1 (rnF g s).1 n 2 ∧ (rnF g s).1 136 20 = nI 2) := by
  have i2 : (2 : Int32) = nI 2 := rfl
  unfold agF rnF
  rw [← hx]
  by_cases c : ¬ g 149 s = 0 ∧ ¬ g 148 s = x
  · have c' : ¬ (f (56 + 2 * s) 7 = 0 ∨ f (57 + 2 * s) 0 = x) := by
      rintro (z | z)
      · exact c.1 (hh.mp z)
      · exact c.2 ((hk c.1).symm.trans z)
    rw [if_pos c, if_neg c']
    dsimp only
    refine ⟨rfl, ?_, ?_, ?_, fun _ => ⟨fun j hj => ?_, ?_⟩⟩
    · rw [mm_up_eq, mm_up_ne _ _ (by omega), mm_up_ne _ _ (by omega), mm_up_eq]
    · rw [mm_up_ne _ _ (by omega), mm_up_eq, mm_up_ne _ _ (by omega), mm_up_eq]
    · rw [mm_up_eq]; decide
    · rw [mm_up_ne _ _ (by omega), mm_up_ne _ _ (by omega), mm_up_ne _ _ (by omega), mm_up_ne _ _ (by omega), mm_up_ne _ _ (by omega), mm_up_ne _ _ (by omega)]
      unfold wgF
      by_cases z : j = 1
      · subst z
        rw [mm_up_eq, mm_up_eq]; exact ht
      · have : j = 0 := by omega
        subst this
        rw [mm_up_ne _ _ (by omega), mm_up_eq, mm_up_ne _ _ (by omega), mm_up_eq]; exact hk c.1
    · rw [mm_up_ne _ _ (by omega), mm_up_ne _ _ (by omega), mm_up_ne _ _ (by omega), mm_up_eq]; exact i2
  · have c' : f (56 + 2 * s) 7 = 0 ∨ f (57 + 2 * s) 0 = x := by
      by_cases z : g 149 s = 0
      · exact Or.inl (hh.mpr z)
      · exact Or.inr ((hk z).trans (Decidable.byContradiction fun y => c ⟨z, y⟩))
    rw [if_neg c, if_pos c']
    dsimp only
    refine ⟨rfl, ?_, ?_, ?_, fun q => absurd q (by decide)⟩
    · rw [mm_up_eq, mm_up_ne _ _ (by omega), mm_up_ne _ _ (by omega), mm_up_eq]
      by_cases z : g 149 s = 0
      · rw [if_pos z, hh.mpr z]; rfl
      · rw [if_neg z, ht]
    · rw [mm_up_ne _ _ (by omega), mm_up_eq, mm_up_ne _ _ (by omega), mm_up_eq]
    · rw [mm_up_eq]; decide
