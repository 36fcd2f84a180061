/-! Pure: a table's slots and the reference's rows. -/
def RW (f : mm_F) (t n cl R : Nat) : Prop :=
  (∀ s, s < n → ∃ r, r < R ∧ f 140 r = nI t ∧ ∀ c, c < cl → f 141 (4 * r + c) = tc f t c s) ∧
  (∀ r, r < R → f 140 r = nI t → ∃ s, s < n ∧ ∀ c, c < cl → f 141 (4 * r + c) = tc f t c s) ∧ ofN f (nI t) R = n
def RK (f : mm_F) (R : Nat) : Prop := ∀ r r', r < R → r' < R → f 140 r = f 140 r' → f 141 (4 * r) = f 141 (4 * r') → r = r'
theorem rwF_spec (f : mm_F) (x key : Int32) : ∀ R, (rwF f x key R = -1 ∧ ∀ r, r < R → ¬ (f 140 r = x ∧ f 141 (4 * r) = key)) ∨ ∃ r, r < R ∧ rwF f x key R = nI r ∧ f 140 r = x ∧ f 141 (4 * r) = key
  | 0 => Or.inl ⟨rfl, fun r hr => by omega⟩
  | R + 1 => by
    have hx : rwF f x key (R + 1) = if f 140 R = x ∧ f 141 (4 * R) = key then nI R else rwF f x key R := rfl
    by_cases q : f 140 R = x ∧ f 141 (4 * R) = key
    · rw [if_pos q] at hx
      exact Or.inr ⟨R, by omega, hx, q⟩
    · rw [if_neg q] at hx
      rw [hx]
      rcases rwF_spec f x key R with ⟨h1, h2⟩ | ⟨r, h1, h2⟩
      · refine Or.inl ⟨h1, fun r hr => ?_⟩
        by_cases z : r = R
        · rw [z]; exact q
        · exact h2 r (by omega)
      · exact Or.inr ⟨r, by omega, h2⟩
/-- class and reference find the same row, or both none -/
theorem RW.find {f : mm_F} {t n cl R : Nat} {L : List Nat} (h : RW f t n cl R) (hL : TC f t 0 n L) (hn : n ≤ 48) (hcl : 1 ≤ cl) (hk : RK f R) (key : Int32) :
    (∃ s r, s < n ∧ r < R ∧ tb_slot f t n key = nI s ∧ rwF f (nI t) key R = nI r ∧ f 140 r = nI t ∧ f 141 (4 * r) = key ∧ tc f t 0 s = key ∧ ∀ c, c < cl → f 141 (4 * r + c) = tc f t c s) ∨
    (tb_slot f t n key = -1 ∧ rwF f (nI t) key R = -1 ∧ (∀ s, s < n → tc f t 0 s ≠ key) ∧ ∀ r, r < R → f 140 r = nI t → f 141 (4 * r) ≠ key) := by
  obtain ⟨h1, h2, h3⟩ := h
  rcases hL.slot hn key with ⟨s, s1, s2, s3⟩ | ⟨s1, s2⟩
  · obtain ⟨r, r1, r2, r3⟩ := h1 s s1
    have e := r3 0 hcl
    rw [Nat.add_zero, s2] at e
    rcases rwF_spec f (nI t) key R with ⟨q1, q2⟩ | ⟨r', q1, q2, q3, q4⟩
    · exact absurd ⟨r2, e⟩ (q2 r r1)
    · have : r = r' := hk r r' r1 q1 (r2.trans q3.symm) (e.trans q4.symm)
      subst this
      exact Or.inl ⟨s, r, s1, r1, s3, q2, r2, e, s2, r3⟩
  · rcases rwF_spec f (nI t) key R with ⟨q1, q2⟩ | ⟨r', q1, q2, q3, q4⟩
    · exact Or.inr ⟨s2, q1, s1, fun r r1 r2 e => q2 r r1 ⟨r2, e⟩⟩
    · obtain ⟨s, a1, a2⟩ := h2 r' q1 q3
      have e := a2 0 hcl
      rw [Nat.add_zero, q4] at e
      exact absurd e.symm (s1 s a1)
theorem kfF_spec (f : mm_F) (x low : Int32) : ∀ R, R ≤ 1000 → (kfF f x low R = -1 ∧ ∀ r, r < R → f 140 r = x → f 141 (4 * r) < low) ∨ ∃ r, r < R ∧ kfF f x low R = nI r ∧ f 140 r = x ∧ ¬ f 141 (4 * r) < low ∧ ∀ q, q < R → f 140 q = x → ¬ f 141 (4 * q) < low → f 141 (4 * r) ≤ f 141 (4 * q)
  | 0, _ => Or.inl ⟨rfl, fun r hr => by omega⟩
  | R + 1, hR => by
    have hx : kfF f x low (R + 1) = if f 140 R = x ∧ ¬ f 141 (4 * R) < low ∧ (kfF f x low R < 0 ∨ ¬ f 141 (4 * (kfF f x low R).toNatClampNeg) ≤ f 141 (4 * R)) then nI R else kfF f x low R := rfl
    rcases kfF_spec f x low R (by omega) with ⟨h1, h2⟩ | ⟨r, r1, r2, r3, r4, r5⟩
    · rw [h1] at hx
      by_cases q : f 140 R = x ∧ ¬ f 141 (4 * R) < low
      · rw [if_pos ⟨q.1, q.2, Or.inl (by decide)⟩] at hx
        refine Or.inr ⟨R, by omega, hx, q.1, q.2, fun p p1 p2 p3 => ?_⟩
        by_cases z : p = R
        · rw [z]; exact Int32.le_refl _
        · exact absurd (h2 p (by omega) p2) p3
      · rw [if_neg (fun z => q ⟨z.1, z.2.1⟩)] at hx
        refine Or.inl ⟨hx, fun p p1 p2 => ?_⟩
        by_cases z : p = R
        · rw [z] at p2 ⊢
          exact Decidable.byContradiction fun y => q ⟨p2, y⟩
        · exact h2 p (by omega) p2
    · rw [r2, nI_clamp (by omega)] at hx
      by_cases q : f 140 R = x ∧ ¬ f 141 (4 * R) < low ∧ (nI r < 0 ∨ ¬ f 141 (4 * r) ≤ f 141 (4 * R))
      · rw [if_pos q] at hx
        have q3 : ¬ f 141 (4 * r) ≤ f 141 (4 * R) := by
          rcases q.2.2 with z | z
          · exact absurd z (nI_lt0 r (by omega))
          · exact z
        refine Or.inr ⟨R, by omega, hx, q.1, q.2.1, fun p p1 p2 p3 => ?_⟩
        by_cases z : p = R
        · rw [z]; exact Int32.le_refl _
        · exact Int32.le_trans (Int32.le_of_lt (Int32.not_le.mp q3)) (r5 p (by omega) p2 p3)
      · rw [if_neg q] at hx
        refine Or.inr ⟨r, by omega, hx, r3, r4, fun p p1 p2 p3 => ?_⟩
        by_cases z : p = R
        · rw [z] at p2 p3 ⊢
          exact Decidable.byContradiction fun y => q ⟨p2, p3, Or.inr y⟩
        · exact r5 p (by omega) p2 p3
/-- the first key from a number on is the same in class and reference -/
theorem RW.from {f : mm_F} {t n cl R : Nat} {L : List Nat} (h : RW f t n cl R) (hL : TC f t 0 n L) (hn : n ≤ 48) (hR : R ≤ 48) (hcl : 1 ≤ cl) (low : Int32) :
    (tb_below f t 0 n low < n ∧ ∃ r, r < R ∧ kfF f (nI t) low R = nI r ∧ f 141 (4 * r) = tp f t 0 (tb_below f t 0 n low)) ∨ (¬ tb_below f t 0 n low < n ∧ kfF f (nI t) low R = -1) := by
  obtain ⟨h1, h2, h3⟩ := h
  have hu := hL.up hn
  obtain ⟨l1, l2, l3, l4⟩ := id hL
  have c0 : ∀ r s, (∀ c, c < cl → f 141 (4 * r + c) = tc f t c s) → f 141 (4 * r) = tc f t 0 s := fun r s q => q 0 hcl
  rcases kfF_spec f (nI t) low R (by omega) with ⟨k1, k2⟩ | ⟨r, r1, r2, r3, r4, r5⟩
  · refine Or.inr ⟨fun z => ?_, k1⟩
    have hp : tb_below f t 0 n low < L.length := by omega
    have e := hL.at hn hp
    obtain ⟨r, r1, r2, r3⟩ := h1 _ ((l3 _).mp (List.getElem_mem hp))
    have := k2 r r1 r2
    rw [c0 r _ r3, ← e, tb_below_iff hu z] at this
    omega
  · obtain ⟨s, s1, s2⟩ := h2 r r1 r3
    have es := c0 r s s2
    obtain ⟨i, hi, ei⟩ := List.getElem_of_mem ((l3 s).mpr s1)
    have e1 := hL.at hn hi
    rw [ei, ← es] at e1
    have n1 : ¬ i < tb_below f t 0 n low := by rw [← tb_below_iff hu (by omega), e1]; exact r4
    have hp : tb_below f t 0 n low < L.length := by omega
    refine Or.inl ⟨by omega, r, r1, r2, ?_⟩
    have e := hL.at hn hp
    obtain ⟨q, q1, q2, q3⟩ := h1 _ ((l3 _).mp (List.getElem_mem hp))
    have eq := c0 q _ q3
    rw [← e] at eq
    have a1 : ¬ f 141 (4 * q) < low := by rw [eq, tb_below_iff hu (by omega)]; omega
    have a2 := r5 q q1 q2 a1
    rw [eq] at a2
    by_cases z : tb_below f t 0 n low = i
    · rw [z]; exact e1.symm
    · have a3 := hu.2 (tb_below f t 0 n low) i (by omega) (by omega)
      rw [← e1] at a2 ⊢
      exact Int32.le_antisymm a2 a3
