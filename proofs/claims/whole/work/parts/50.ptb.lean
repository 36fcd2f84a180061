/-! Pure: what holds of a table's rows and orders. -/
theorem lx_iff {f : mm_F} {t c a b : Nat} : lx f t c a b = true ↔ (tc f t c a).toInt < (tc f t c b).toInt ∨ (tc f t c a).toInt = (tc f t c b).toInt ∧ (tc f t 0 a).toInt < (tc f t 0 b).toInt := by
  unfold lx
  rw [Bool.or_eq_true, Bool.and_eq_true, decide_eq_true_eq, decide_eq_true_eq, decide_eq_true_eq, Int32.lt_iff_toInt_lt, Int32.lt_iff_toInt_lt, ← Int32.toInt_inj]
theorem lx_irr {f : mm_F} {t c a : Nat} : ¬ lx f t c a a = true := by rw [lx_iff]; omega
theorem lx_tr {f : mm_F} {t c a b d : Nat} (h1 : lx f t c a b = true) (h2 : lx f t c b d = true) : lx f t c a d = true := by
  rw [lx_iff] at h1 h2 ⊢; omega
theorem lx_tot {f : mm_F} {t c a b : Nat} (h : tc f t 0 a ≠ tc f t 0 b) (h2 : ¬ lx f t c a b = true) : lx f t c b a = true := by
  rw [lx_iff] at h2 ⊢
  have : (tc f t 0 a).toInt ≠ (tc f t 0 b).toInt := fun e => h (Int32.toInt_inj.mp e)
  omega
theorem lx_le {f : mm_F} {t c a b : Nat} (h : lx f t c a b = true) : tc f t c a ≤ tc f t c b := by
  rw [lx_iff] at h; rw [Int32.le_iff_toInt_le]; omega
theorem lx_key {f : mm_F} {t a b : Nat} (h : lx f t 0 a b = true) : tc f t 0 a < tc f t 0 b := by
  rw [lx_iff] at h; rw [Int32.lt_iff_toInt_lt]; omega
theorem lx_of {f g : mm_F} {t c a b a' b' : Nat} (h1 : tc g t c a' = tc f t c a) (h2 : tc g t c b' = tc f t c b) (h3 : tc g t 0 a' = tc f t 0 a) (h4 : tc g t 0 b' = tc f t 0 b) : lx g t c a' b' = lx f t c a b := by
  unfold lx
  rw [h1, h2, h3, h4]
/-- the order of column c of table t: the slots below n, each once, by the cell, then by the key -/
def TC (f : mm_F) (t c n : Nat) (L : List Nat) : Prop := L.length = n ∧ isO f t c L ∧ (∀ x, x ∈ L ↔ x < n) ∧ L.Pairwise (fun a b => lx f t c a b = true)
theorem TC.up {f : mm_F} {t c n : Nat} {L : List Nat} (h : TC f t c n L) (hn : n ≤ 48) : tb_up f t c n := by
  obtain ⟨h1, h2, h3, h4⟩ := h
  have hL : ∀ i (hi : i < L.length), L[i] < n := fun i hi => (h3 _).mp (List.getElem_mem hi)
  refine ⟨fun p hp => ⟨L[p]'(by omega), by have := hL p (by omega); omega, h2 p (by omega)⟩, fun i j hij hj => ?_⟩
  rw [h2 i (by omega), h2 j (by omega), nI_clamp (by have := hL i (by omega); omega), nI_clamp (by have := hL j (by omega); omega)]
  exact lx_le (List.pairwise_iff_getElem.mp h4 i j (by omega) (by omega) hij)
theorem TC.at {f : mm_F} {t c n : Nat} {L : List Nat} (h : TC f t c n L) (hn : n ≤ 48) {p : Nat} (hp : p < L.length) : tp f t c p = tc f t c L[p] := by
  obtain ⟨h1, h2, h3, h4⟩ := h
  have : L[p] < n := (h3 _).mp (List.getElem_mem hp)
  show tc f t c (to f t c p).toNatClampNeg = _
  rw [h2 p hp, nI_clamp (by omega)]
theorem TC.keys {f : mm_F} {t n : Nat} {L : List Nat} (h : TC f t 0 n L) {a b : Nat} (ha : a < n) (hb : b < n) (e : tc f t 0 a = tc f t 0 b) : a = b := by
  obtain ⟨h1, h2, h3, h4⟩ := h
  obtain ⟨i, hi, ei⟩ := List.getElem_of_mem ((h3 a).mpr ha)
  obtain ⟨j, hj, ej⟩ := List.getElem_of_mem ((h3 b).mpr hb)
  rcases Nat.lt_trichotomy i j with q | q | q
  · have := lx_key (List.pairwise_iff_getElem.mp h4 i j hi hj q)
    rw [ei, ej, e] at this
    exact absurd this Int32.lt_irrefl
  · subst q; rw [← ei, ← ej]
  · have := lx_key (List.pairwise_iff_getElem.mp h4 j i hj hi q)
    rw [ei, ej, e] at this
    exact absurd this Int32.lt_irrefl
/-- the slot of a key -/
theorem TC.slot {f : mm_F} {t n : Nat} {L : List Nat} (h : TC f t 0 n L) (hn : n ≤ 48) (key : Int32) : (∃ s, s < n ∧ tc f t 0 s = key ∧ tb_slot f t n key = nI s) ∨ ((∀ s, s < n → tc f t 0 s ≠ key) ∧ tb_slot f t n key = -1) := by
  have hu := h.up hn
  have h' := h
  obtain ⟨h1, h2, h3, h4⟩ := h'
  have hx : tb_slot f t n key = if tb_below f t 0 n key < n ∧ tp f t 0 (tb_below f t 0 n key) = key then to f t 0 (tb_below f t 0 n key) else -1 := rfl
  by_cases q : tb_below f t 0 n key < n ∧ tp f t 0 (tb_below f t 0 n key) = key
  · rw [if_pos q] at hx
    have hp : tb_below f t 0 n key < L.length := by omega
    refine Or.inl ⟨L[tb_below f t 0 n key], (h3 _).mp (List.getElem_mem hp), ?_, ?_⟩
    · rw [← h.at hn hp]; exact q.2
    · rw [hx]; exact h2 _ hp
  · rw [if_neg q] at hx
    refine Or.inr ⟨fun s hs e => q ?_, hx⟩
    obtain ⟨i, hi, ei⟩ := List.getElem_of_mem ((h3 s).mpr hs)
    have e1 := h.at hn hi
    rw [ei, e] at e1
    have n1 : ¬ i < tb_below f t 0 n key := by
      rw [← tb_below_iff hu (by omega), e1]; exact Int32.lt_irrefl
    have n2 : i ≤ tb_below f t 0 n key := by
      refine Nat.le_of_not_lt fun z => ?_
      have z2 : ¬ tp f t 0 (tb_below f t 0 n key) < key := by rw [tb_below_iff hu (by omega)]; omega
      have z3 := lx_key (List.pairwise_iff_getElem.mp h4 _ i (by omega) hi z)
      rw [← h.at hn (by omega), ei, e] at z3
      exact z2 z3
    have : i = tb_below f t 0 n key := by omega
    rw [← this]
    exact ⟨by omega, e1⟩
