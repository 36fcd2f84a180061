/-! Pure: the next row of a source, class beside reference. -/
def nsP (f : mm_F) (c r : Nat) : Prop := f 140 r = f 142 1 ∧ nsW f (f 141 (4 * r + c)) = true ∧ nsL f (f 141 (4 * r + c)) (f 141 (4 * r)) = true
def nsLt (f : mm_F) (c q r : Nat) : Prop := f 141 (4 * q + c) < f 141 (4 * r + c) ∨ f 141 (4 * q + c) = f 141 (4 * r + c) ∧ f 141 (4 * q) < f 141 (4 * r)
theorem nsLt_iff {f : mm_F} {c q r : Nat} : nsLt f c q r ↔ (f 141 (4 * q + c)).toInt < (f 141 (4 * r + c)).toInt ∨ (f 141 (4 * q + c)).toInt = (f 141 (4 * r + c)).toInt ∧ (f 141 (4 * q)).toInt < (f 141 (4 * r)).toInt := by
  unfold nsLt
  rw [Int32.lt_iff_toInt_lt, Int32.lt_iff_toInt_lt, ← Int32.toInt_inj]
theorem nsT_iff {f : mm_F} {c r q : Nat} (hr : r ≤ 1000) : nsT f c (nI r) (f 141 (4 * q + c)) (f 141 (4 * q)) = true ↔ nsLt f c q r := by
  unfold nsT nsLt
  rw [decide_eq_true_iff, nI_clamp (by omega), Int32.not_le]
  constructor
  · rintro (z | z | z)
    · exact absurd z (nI_lt0 r (by omega))
    · exact Or.inl z
    · exact Or.inr z
  · rintro (z | z)
    · exact Or.inr (Or.inl z)
    · exact Or.inr (Or.inr z)
theorem nsB_spec (f : mm_F) (c : Nat) : ∀ R, R ≤ 1000 → (nsB f c R = -1 ∧ ∀ r, r < R → ¬ nsP f c r) ∨ ∃ r, r < R ∧ nsB f c R = nI r ∧ nsP f c r ∧ ∀ q, q < R → nsP f c q → ¬ nsLt f c q r
  | 0, _ => Or.inl ⟨rfl, fun r hr => by omega⟩
  | R + 1, hR => by
    have hx : nsB f c (R + 1) = if f 140 R = f 142 1 ∧ nsW f (f 141 (4 * R + c)) = true ∧ nsL f (f 141 (4 * R + c)) (f 141 (4 * R)) = true ∧ nsT f c (nsB f c R) (f 141 (4 * R + c)) (f 141 (4 * R)) = true then nI R else nsB f c R := rfl
    rcases nsB_spec f c R (by omega) with ⟨h1, h2⟩ | ⟨r, r1, r2, r3, r4⟩
    · rw [h1] at hx
      by_cases q : nsP f c R
      · have e : nsT f c (-1) (f 141 (4 * R + c)) (f 141 (4 * R)) = true := decide_eq_true (Or.inl (by decide))
        rw [if_pos ⟨q.1, q.2.1, q.2.2, e⟩] at hx
        refine Or.inr ⟨R, by omega, hx, q, fun p p1 p2 => ?_⟩
        by_cases z : p = R
        · rw [z, nsLt_iff]; omega
        · exact absurd p2 (h2 p (by omega))
      · rw [if_neg (fun z => q ⟨z.1, z.2.1, z.2.2.1⟩)] at hx
        refine Or.inl ⟨hx, fun p p1 => ?_⟩
        by_cases z : p = R
        · rw [z]; exact q
        · exact h2 p (by omega)
    · rw [r2] at hx
      by_cases q : nsP f c R ∧ nsLt f c R r
      · rw [if_pos ⟨q.1.1, q.1.2.1, q.1.2.2, (nsT_iff (by omega)).mpr q.2⟩] at hx
        refine Or.inr ⟨R, by omega, hx, q.1, fun p p1 p2 => ?_⟩
        by_cases z : p = R
        · rw [z, nsLt_iff]; omega
        · have := r4 p (by omega) p2
          have q2 := q.2
          rw [nsLt_iff] at this q2 ⊢
          omega
      · rw [if_neg (fun z => q ⟨⟨z.1, z.2.1, z.2.2.1⟩, (nsT_iff (by omega)).mp z.2.2.2⟩)] at hx
        refine Or.inr ⟨r, by omega, hx, r3, fun p p1 p2 => ?_⟩
        by_cases z : p = R
        · rw [z] at p2 ⊢
          exact fun y => q ⟨p2, y⟩
        · exact r4 p (by omega) p2
/-- x is where the rows of the source that are still to come begin -/
def sX (f : mm_F) (t c x : Nat) (low : Int32) (L : List Nat) : Prop := (∀ i (hi : i < L.length), ¬ tc f t c L[i] < low → (nsL f (tc f t c L[i]) (tc f t 0 L[i]) = true ↔ x ≤ i)) ∧ ∀ i (hi : i < L.length), x ≤ i → ¬ tc f t c L[i] < low
theorem sX_first {f : mm_F} {t c n : Nat} {low : Int32} {L : List Nat} (hL : TC f t c n L) (hn : n ≤ 48) (h0 : f 136 28 = 0) : sX f t c (tb_below f t c n low) low L := by
  have hu := hL.up hn
  have h1 := hL.1
  have yes : ∀ a b, nsL f a b = true := fun a b => decide_eq_true (Or.inl h0)
  refine ⟨fun i hi q => ⟨fun _ => ?_, fun _ => yes _ _⟩, fun i hi hx z => ?_⟩
  · refine Nat.le_of_not_lt fun z => ?_
    rw [← tb_below_iff hu (by omega), hL.at hn hi] at z
    exact q z
  · rw [← hL.at hn hi, tb_below_iff hu (by omega)] at z
    omega
theorem sX_next {f : mm_F} {t c n x : Nat} {low : Int32} {L : List Nat} (hL : TC f t c n L) (hx : x < L.length) (hlow : ¬ tc f t c L[x] < low) (h1 : ¬ f 136 28 = 0) (hc : f 136 26 = tc f t c L[x]) (hk : f 136 27 = tc f t 0 L[x]) : sX f t c (x + 1) low L := by
  obtain ⟨l1, l2, l3, l4⟩ := hL
  have hN : ∀ i (hi : i < L.length), nsL f (tc f t c L[i]) (tc f t 0 L[i]) = true ↔ lx f t c L[x] L[i] = true := fun i hi => by
    unfold nsL
    rw [decide_eq_true_iff, hc, hk, lx_iff, Int32.lt_iff_toInt_lt, Int32.le_iff_toInt_le]
    constructor
    · rintro (z | z | z)
      · exact absurd z h1
      · exact Or.inl z
      · have z1 := congrArg Int32.toInt z.1
        exact Or.inr ⟨z1.symm, by omega⟩
    · rintro (z | z)
      · exact Or.inr (Or.inl z)
      · exact Or.inr (Or.inr ⟨Int32.toInt_inj.mp z.1.symm, by omega⟩)
  refine ⟨fun i hi q => ?_, fun i hi hxi z => ?_⟩
  · rw [hN i hi]
    rcases Nat.lt_trichotomy i x with z | z | z
    · have := List.pairwise_iff_getElem.mp l4 i x hi hx z
      exact ⟨fun y => absurd (lx_tr this y) lx_irr, fun y => by omega⟩
    · subst z
      exact ⟨fun y => absurd y lx_irr, fun y => by omega⟩
    · exact ⟨fun _ => z, fun _ => List.pairwise_iff_getElem.mp l4 x i hx hi z⟩
  · have := lx_le (List.pairwise_iff_getElem.mp l4 x i hx hi hxi)
    exact hlow (Int32.lt_of_le_of_lt this z)
/-- the class's next row is the reference's, or both have none -/
theorem source_next {f : mm_F} {t c n cl R x : Nat} {low high : Int32} {L : List Nat} (hr : RW f t n cl R) (hL : TC f t c n L) (hc : c < cl) (hR : R ≤ 48) (ht : f 142 1 = nI t) (hW : ∀ z, nsW f z = true ↔ (¬ z < low ∧ z ≤ high)) (hx : sX f t c x low L) :
    (∃ (h : x < L.length) (r : Nat), tc f t c L[x] ≤ high ∧ ¬ tc f t c L[x] < low ∧ r < R ∧ nsB f c R = nI r ∧ f 140 r = nI t ∧ ∀ d, d < cl → f 141 (4 * r + d) = tc f t d L[x]) ∨
    ((∀ h : x < L.length, ¬ tc f t c L[x] ≤ high) ∧ nsB f c R = -1) := by
  obtain ⟨a1, a2, a3⟩ := hr
  obtain ⟨x1, x2⟩ := hx
  obtain ⟨l1, l2, l3, l4⟩ := id hL
  have c0 : ∀ r u, (∀ c, c < cl → f 141 (4 * r + c) = tc f t c u) → f 141 (4 * r) = tc f t 0 u := fun r u q => q 0 (by omega)
  rcases nsB_spec f c R (by omega) with ⟨b1, b2⟩ | ⟨r, r1, r2, r3, r4⟩
  · right
    refine ⟨fun h q => ?_, b1⟩
    have lo := x2 x h (Nat.le_refl _)
    obtain ⟨r, r1, r2, r3⟩ := a1 L[x] ((l3 _).mp (List.getElem_mem h))
    refine b2 r r1 ⟨r2.trans ht.symm, ?_, ?_⟩
    · rw [r3 c hc]; exact (hW _).mpr ⟨lo, q⟩
    · rw [r3 c hc, c0 r _ r3]; exact (x1 x h lo).mpr (Nat.le_refl _)
  · left
    obtain ⟨p1, p2, p3⟩ := r3
    have p1' := p1.trans ht
    obtain ⟨u, u1, u2⟩ := a2 r r1 p1'
    obtain ⟨i, hi, ei⟩ := List.getElem_of_mem ((l3 u).mpr u1)
    rw [u2 c hc] at p2 p3
    rw [c0 r u u2] at p3
    obtain ⟨w1, w2⟩ := (hW _).mp p2
    rw [← ei] at w1 w2 p3
    have hxi : x ≤ i := (x1 i hi w1).mp p3
    have hxl : x < L.length := by omega
    have lo := x2 x hxl (Nat.le_refl _)
    have hle : tc f t c L[x] ≤ tc f t c L[i] := by
      by_cases z : x = i
      · subst z; exact Int32.le_refl _
      · exact lx_le (List.pairwise_iff_getElem.mp l4 x i hxl hi (by omega))
    have hhi := Int32.le_trans hle w2
    obtain ⟨q, q1, q2, q3⟩ := a1 L[x] ((l3 _).mp (List.getElem_mem hxl))
    have hq := r4 q q1 ⟨q2.trans ht.symm, by rw [q3 c hc]; exact (hW _).mpr ⟨lo, hhi⟩, by rw [q3 c hc, c0 q _ q3]; exact (x1 x hxl lo).mpr (Nat.le_refl _)⟩
    have hix : i = x := by
      refine Decidable.byContradiction fun z => hq ?_
      have := List.pairwise_iff_getElem.mp l4 x i hxl hi (by omega)
      rw [lx_iff] at this
      rw [nsLt_iff, q3 c hc, c0 q _ q3, u2 c hc, c0 r u u2, ← ei]
      exact this
    subst hix
    exact ⟨hxl, r, hhi, lo, r1, r2, p1', fun d hd => by rw [u2 d hd, ei]⟩
