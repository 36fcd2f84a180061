/-! Pure: a bound of the moves: how many rows a step may still give. -/
/-- rows that step s may still give; kd kinds, ow what the step holds back, r rows that may still be visited, fl the step that a row is on its way to -/
def gm (kd : Nat → Int32) (ow : Nat → Nat) (r fl : Nat) : Nat → Nat
  | 0 => r
  | s + 1 => (if kd (s + 1) = 5 then r else if kd (s + 1) = 8 ∨ kd (s + 1) = 9 then 0 else gm kd ow r fl s + (if fl = s + 1 then 1 else 0)) + ow (s + 1)
def sg (kd : Nat → Int32) (ow : Nat → Nat) (r fl : Nat) : Nat → Nat
  | 0 => 0
  | s + 1 => sg kd ow r fl s + gm kd ow r fl s
theorem gm_succ (kd : Nat → Int32) (ow : Nat → Nat) (r fl s : Nat) : gm kd ow r fl (s + 1) = (if kd (s + 1) = 5 then r else if kd (s + 1) = 8 ∨ kd (s + 1) = 9 then 0 else gm kd ow r fl s + (if fl = s + 1 then 1 else 0)) + ow (s + 1) := rfl
/-- one step: what comes in does not grow, so what goes out does not -/
theorem gm_step {kd : Nat → Int32} {ow ow' : Nat → Nat} {r r' fl fl' s : Nat} (hr : r' ≤ r) (ho : ow' (s + 1) ≤ ow (s + 1)) (hi : gm kd ow' r' fl' s + (if fl' = s + 1 then 1 else 0) ≤ gm kd ow r fl s + (if fl = s + 1 then 1 else 0)) : gm kd ow' r' fl' (s + 1) ≤ gm kd ow r fl (s + 1) := by
  rw [gm_succ, gm_succ]
  by_cases k5 : kd (s + 1) = 5
  · rw [if_pos k5, if_pos k5]; omega
  · rw [if_neg k5, if_neg k5]
    by_cases k8 : kd (s + 1) = 8 ∨ kd (s + 1) = 9
    · rw [if_pos k8, if_pos k8]; omega
    · rw [if_neg k8, if_neg k8]; omega
/-- below the step that moves, nothing grows -/
theorem gm_low {kd : Nat → Int32} {ow ow' : Nat → Nat} {r r' fl fl' a : Nat} (hr : r' ≤ r) (ho : ∀ s, s < a → ow' s ≤ ow s) (h2 : fl' = 0 ∨ a < fl') : ∀ s, s < a → gm kd ow' r' fl' s ≤ gm kd ow r fl s
  | 0, _ => hr
  | s + 1, h => by
    have ih := gm_low hr ho h2 (kd := kd) (fl := fl) s (by omega)
    refine gm_step hr (ho _ h) ?_
    rw [if_neg (show ¬ fl' = s + 1 by omega)]
    omega
theorem gm_high {kd : Nat → Int32} {ow ow' : Nat → Nat} {r r' fl fl' a : Nat} (hr : r' ≤ r) (ho : ∀ s, a < s → ow' s ≤ ow s) (h2 : fl' = 0 ∨ fl' = a + 1) (ha : gm kd ow' r' fl' a + (if fl' = a + 1 then 1 else 0) ≤ gm kd ow r fl a) : ∀ d, gm kd ow' r' fl' (a + d) ≤ gm kd ow r fl (a + d)
  | 0 => by simp only [Nat.add_zero]; omega
  | d + 1 => by
    have ih := gm_high hr ho h2 ha d
    rw [← Nat.add_assoc]
    refine gm_step hr (ho _ (by omega)) ?_
    by_cases z : d = 0
    · subst z
      simp only [Nat.add_zero] at ih ⊢
      omega
    · rw [if_neg (show ¬ fl' = a + d + 1 by omega)]
      omega
/-- behind a move at step a nothing grows -/
theorem gm_all {kd : Nat → Int32} {ow ow' : Nat → Nat} {r r' fl fl' a : Nat} (hr : r' ≤ r) (ho : ∀ s, ¬ s = a → ow' s ≤ ow s) (h2 : fl' = 0 ∨ fl' = a + 1) (ha : gm kd ow' r' fl' a + (if fl' = a + 1 then 1 else 0) ≤ gm kd ow r fl a) (s : Nat) : gm kd ow' r' fl' s ≤ gm kd ow r fl s := by
  by_cases h : s < a
  · exact gm_low hr (fun s h => ho s (by omega)) (by omega) s h
  · have := gm_high hr (fun s h => ho s (by omega)) h2 ha (s - a)
    rw [show a + (s - a) = s by omega] at this
    exact this
/-- what comes in to another step does not grow -/
theorem gm_in {kd : Nat → Int32} {ow ow' : Nat → Nat} {r r' fl fl' a : Nat} (hr : r' ≤ r) (ho : ∀ s, ¬ s = a → ow' s ≤ ow s) (h2 : fl' = 0 ∨ fl' = a + 1) (ha : gm kd ow' r' fl' a + (if fl' = a + 1 then 1 else 0) ≤ gm kd ow r fl a) (s : Nat) : gm kd ow' r' fl' s + (if fl' = s + 1 then 1 else 0) ≤ gm kd ow r fl s + (if fl = s + 1 then 1 else 0) := by
  have := gm_all hr ho h2 ha s
  by_cases z : s = a
  · subst z; omega
  · rw [if_neg (show ¬ fl' = s + 1 by omega)]; omega
theorem sg_le {kd : Nat → Int32} {ow ow' : Nat → Nat} {r r' fl fl' : Nat} (h : ∀ s, gm kd ow' r' fl' s ≤ gm kd ow r fl s) : ∀ N, sg kd ow' r' fl' N ≤ sg kd ow r fl N
  | 0 => Nat.le_refl _
  | N + 1 => by
    have := sg_le h N
    have := h N
    unfold sg
    omega
theorem sg_lt {kd : Nat → Int32} {ow ow' : Nat → Nat} {r r' fl fl' a : Nat} (h : ∀ s, gm kd ow' r' fl' s ≤ gm kd ow r fl s) (ha : gm kd ow' r' fl' a + 1 ≤ gm kd ow r fl a) : ∀ N, a < N → sg kd ow' r' fl' N + 1 ≤ sg kd ow r fl N
  | 0, q => by omega
  | N + 1, q => by
    have l := sg_le h N
    have := h N
    by_cases z : a = N
    · subst z; unfold sg; omega
    · have := sg_lt h ha N (by omega)
      unfold sg
      omega
/-- at the start: nobody holds anything back but one row a step of sums -/
theorem gm_first {kd : Nat → Int32} {ow : Nat → Nat} {r : Nat} (h : ∀ s, ow s ≤ (if kd s = 8 ∨ kd s = 9 then 1 else 0)) : ∀ s, gm kd ow r 0 s ≤ r + 1
  | 0 => Nat.le_succ r
  | s + 1 => by
    have ih := gm_first (r := r) h s
    have o := h (s + 1)
    rw [gm_succ]
    by_cases k5 : kd (s + 1) = 5
    · rw [if_pos k5]
      rw [if_neg (by rw [k5]; decide)] at o
      omega
    · rw [if_neg k5]
      by_cases k8 : kd (s + 1) = 8 ∨ kd (s + 1) = 9
      · rw [if_pos k8]; rw [if_pos k8] at o; omega
      · rw [if_neg k8, if_neg (by omega)]; rw [if_neg k8] at o; omega
theorem sg_first {kd : Nat → Int32} {ow : Nat → Nat} {r : Nat} (h : ∀ s, ow s ≤ (if kd s = 8 ∨ kd s = 9 then 1 else 0)) : ∀ N, sg kd ow r 0 N ≤ N * (r + 1)
  | 0 => by unfold sg; omega
  | N + 1 => by
    have := sg_first (r := r) h N
    have := gm_first (r := r) h N
    unfold sg
    rw [Nat.succ_mul]
    omega
