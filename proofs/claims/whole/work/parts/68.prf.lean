/-! Pure: what a step of the class writes when it reacts; filters. -/
theorem ps_hl {r x v : Int32} (h : btw 0 5 r = true) : psF r x v = hlF x r v := by
  have b : ¬ r < 0 ∧ ¬ 5 < r := of_decide_eq_true h
  unfold psF hlF
  split
  · rfl
  split
  · rfl
  split
  · rfl
  split
  · rfl
  split
  · rfl
  · rename_i h0 h1 h2 h3 h4
    have e : r = 5 := by
      rw [Int32.lt_iff_toInt_lt, Int32.lt_iff_toInt_lt] at b
      have ne : ∀ j : Int32, ¬ r = j → r.toInt ≠ j.toInt := fun j q z => q (Int32.toInt_inj.mp z)
      have n0 := ne 0 h0
      have n1 := ne 1 h1
      have n2 := ne 2 h2
      have n3 := ne 3 h3
      have n4 := ne 4 h4
      have e0 : (0 : Int32).toInt = 0 := by decide
      have e1 : (1 : Int32).toInt = 1 := by decide
      have e2 : (2 : Int32).toInt = 2 := by decide
      have e3 : (3 : Int32).toInt = 3 := by decide
      have e4 : (4 : Int32).toInt = 4 := by decide
      have e5 : (5 : Int32).toInt = 5 := by decide
      apply Int32.toInt_inj.mp
      omega
    rw [if_pos e]
/-- nothing but the step's walk, tally and kept cells, and the run's row and visits, has changed -/
def vfr (f g : mm_F) (n s : Nat) : Prop := ∀ a j, ¬ (a = 56 + 2 * s ∧ 5 ≤ j) → ¬ a = 57 + 2 * s → ¬ (a = n ∧ j = 4) → ¬ a = n + 1 → g a j = f a j
theorem vfr.rf (f : mm_F) (n s : Nat) : vfr f f n s := fun _ _ _ _ _ _ => rfl
theorem vfr.tr {f g h : mm_F} {n s : Nat} (h1 : vfr f g n s) (h2 : vfr g h n s) : vfr f h n s := fun a j q1 q2 q3 q4 => (h2 a j q1 q2 q3 q4).trans (h1 a j q1 q2 q3 q4)
theorem vfr.up {f : mm_F} {n s a j : Nat} {x : Int32} (h : (a = 56 + 2 * s ∧ 5 ≤ j) ∨ a = 57 + 2 * s ∨ (a = n ∧ j = 4) ∨ a = n + 1) : vfr f (mm_up f a j x) n s := fun b k q1 q2 q3 q4 => mm_up_ne _ _ (by omega)
theorem cpC_vfr {f : mm_F} {n s a b k : Nat} (h : b = 57 + 2 * s ∨ b = n + 1) : vfr f (cpC f a b k) n s := fun c j q1 q2 q3 q4 => by
  unfold cpC
  rw [if_neg (by omega)]
theorem cpR_vfr {f : mm_F} {n s t cols q o : Nat} : vfr f (cpR f t cols q (n + 1) o) n s := fun c j q1 q2 q3 q4 => by
  unfold cpR
  rw [if_neg (by omega)]
theorem wkF_vfr {f : mm_F} {n s t cols wb q : Nat} : vfr f (wkF f n s t cols wb q) n s := (((vfr.up (by omega)).tr (cpC_vfr (Or.inr rfl))).tr cpR_vfr).tr (vfr.up (by omega))
theorem wkR_vfr {f : mm_F} {n s : Nat} {e : Int32} : vfr f (wkR f n s e).1 n s := by
  unfold wkR
  split
  · split
    · exact wkF_vfr
    · exact vfr.rf _ _ _
  · exact vfr.rf _ _ _
theorem bwF_vfr {f : mm_F} {n s t c m : Nat} {lo hi : Int32} : vfr f (bwF f s t c m lo hi) n s := (vfr.up (by omega)).tr (vfr.up (by omega))
theorem wgF_vfr {f : mm_F} {n s : Nat} : vfr f (wgF f n s) n s := (vfr.up (by omega)).tr (vfr.up (by omega))
theorem waF_vfr {f : mm_F} {n s : Nat} : vfr f (waF f n s).1 n s := by
  unfold waF
  split
  · exact wkR_vfr
  split
  · exact wkR_vfr
  split
  · exact vfr.rf _ _ _
  · exact vfr.rf _ _ _
theorem piF_vfr {f : mm_F} {n s p k : Nat} : vfr f (piF f n s p k) n s := by
  unfold piF
  refine vfr.tr ?_ (cpC_vfr (Or.inr rfl))
  intro c j q1 q2 q3 q4
  unfold pcF
  rw [if_neg (by omega)]
theorem agF_vfr {f : mm_F} {n s : Nat} {x : Int32} : vfr f (agF f n s x).1 n s := by
  unfold agF
  split
  · exact (vfr.up (by omega)).tr (vfr.up (by omega))
  · exact (wgF_vfr.tr (vfr.up (by omega))).tr (vfr.up (by omega))
theorem wvF_vfr {f : mm_F} {n s : Nat} : vfr f (wvF f n s).1 n s := by
  unfold wvF
  split
  · exact vfr.rf _ _ _
  split
  · exact piF_vfr
  split
  · exact ((cpC_vfr (Or.inl rfl)).tr bwF_vfr).tr wkR_vfr
  split
  · unfold sgF
    split
    · exact vfr.rf _ _ _
    · exact vfr.up (by omega)
  split
  · exact vfr.up (by omega)
  split
  · exact vfr.up (by omega)
  split
  · exact vfr.up (by omega)
  split
  · exact agF_vfr
  · exact vfr.rf _ _ _
theorem weF_vfr {f : mm_F} {n s : Nat} : vfr f (weF f n s).1 n s := by
  unfold weF
  split
  · exact (vfr.up (by omega)).tr (vfr.up (by omega))
  split
  · split
    · exact vfr.up (by omega)
    · exact (vfr.up (by omega)).tr wgF_vfr
  · exact vfr.rf _ _ _
theorem reF_vfr {f : mm_F} {n s : Nat} {w : Int32} : vfr f (reF f n s w).1 n s := by
  unfold reF
  split
  · exact waF_vfr
  split
  · exact wvF_vfr
  · exact weF_vfr
