/-! Small things: exact posts, numbers, counting. -/
def mm_P (r : Option Value) (w : mm_W) (f : mm_F) : Option Value → mm_W → mm_F → Prop := fun r' w' f' => r = r' ∧ w = w' ∧ f = f'
theorem mm_Pr {r : Option Value} {w : mm_W} {f : mm_F} : mm_P r w f r w f := ⟨rfl, rfl, rfl⟩
theorem mm_C.imp {E : mm_E} {y : MethodName} {cc : ByteArray} {nL : Nat} {ret : Option FieldType} {lev kc ks : Nat} {as : List Value} {w : mm_W} {f : mm_F} {P P' : Option Value → mm_W → mm_F → Prop} (h : mm_C E y cc nL ret lev kc ks as w f P) (hp : ∀ r w f, P r w f → P' r w f) : mm_C E y cc nL ret lev kc ks as w f P' := by
  intro p e h1 h2 h3 s m args below h4 h5 h6 h7
  obtain ⟨n, o, a1, a2, a3, ⟨r, w1, f1, b1, b2, b3⟩, a5⟩ := h p e h1 h2 h3 s m args below h4 h5 h6 h7
  exact ⟨n, o, a1, a2, a3, ⟨r, w1, f1, b1, hp _ _ _ b2, b3⟩, a5⟩
theorem mm_inI {k N : Nat} (h : k < N) (hN : N ≤ 1000000) : vp_in (nI k) N := nI_in h (by omega)
def cn (P : Nat → Bool) : Nat → Nat
  | 0 => 0
  | n + 1 => cn P n + (if P n then 1 else 0)
theorem cn_le (P : Nat → Bool) : ∀ n, cn P n ≤ n
  | 0 => Nat.le_refl _
  | n + 1 => by
    have := cn_le P n
    unfold cn
    split <;> omega
theorem cn_all {P : Nat → Bool} : ∀ {n : Nat}, (∀ i, i < n → P i = true) → cn P n = n
  | 0, _ => rfl
  | n + 1, h => by
    have h1 := cn_all (n := n) (fun i hi => h i (by omega))
    unfold cn
    rw [h1, h n (by omega)]
    rfl
theorem cn_mono {P : Nat → Bool} : ∀ {n : Nat}, (∀ i j, i < j → j < n → P j = true → P i = true) → ∀ i, i < n → (P i = true ↔ i < cn P n)
  | 0, _, i, hi => by omega
  | n + 1, h, i, hi => by
    have ih := cn_mono (n := n) (fun i j h1 h2 => h i j h1 (by omega))
    have hle := cn_le P n
    by_cases hP : P n = true
    · have hall : cn P n = n := cn_all (fun j hj => h j n hj (by omega) hP)
      have e : cn P (n + 1) = n + 1 := by
        unfold cn
        rw [hall, hP]
        rfl
      rw [e]
      refine ⟨fun _ => hi, fun _ => ?_⟩
      by_cases hin : i = n
      · rw [hin]; exact hP
      · exact h i n (by omega) (by omega) hP
    · have e : cn P (n + 1) = cn P n := by
        show cn P n + (if P n then 1 else 0) = cn P n
        simp [hP]
      rw [e]
      by_cases hin : i = n
      · subst hin
        exact ⟨fun q => absurd q hP, fun q => by omega⟩
      · exact ih i (by omega)
theorem cn_congr {P Q : Nat → Bool} : ∀ {n : Nat}, (∀ i, i < n → P i = Q i) → cn P n = cn Q n
  | 0, _ => rfl
  | n + 1, h => by
    unfold cn
    rw [cn_congr (n := n) (fun i hi => h i (by omega)), h n (by omega)]
theorem nI_half : ∀ k, k < 5 → nI (2 ^ (k + 1)) >>> ((1 : Int32) &&& 31) = nI (2 ^ k) := by decide +kernel
theorem nI_half0 : nI (2 ^ 0) >>> ((1 : Int32) &&& 31) = nI 0 := by decide +kernel
theorem mm_b2 {x : Int32} (h : x = 0 ∨ x = 1) : narrow .boolean (.int x) = .int x := by
  rcases h with rfl | rfl <;> rfl
theorem mm_b2f {x : Int32} (h : x = 0 ∨ x = 1) : fits .boolean (.int x) = true := by
  rcases h with rfl | rfl <;> rfl
def bI (b : Bool) : Int32 := if b then 1 else 0
theorem bI_01 (b : Bool) : bI b = 0 ∨ bI b = 1 := by cases b <;> simp [bI]
theorem bI_t : bI true = 1 := rfl
theorem bI_f : bI false = 0 := rfl
def inb (x : Int32) (n : Nat) : Bool := decide (0 ≤ x.toInt ∧ x.toInt < n)
theorem inb_iff {x : Int32} {n : Nat} : inb x n = true ↔ vp_in x n := by simp [inb, vp_in_iff]
theorem inb_of {x : Int32} {n : Nat} (h : inb x n = true) (hn : n < 2 ^ 31) : ∃ j : Nat, j < n ∧ x = nI j := vp_in_of (inb_iff.mp h) hn
theorem inb_cmp {x : Int32} {n : Nat} (hn : n < 2 ^ 31) : inb x n = true ↔ (¬ x < 0 ∧ ¬ nI n ≤ x) := by
  rw [inb_iff, vp_in_iff, Int32.lt_iff_toInt_lt, Int32.le_iff_toInt_le, nI_toInt hn, Int32.toInt_zero]
  omega
