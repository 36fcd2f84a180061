/-! Pure: the next row of a join, class beside reference. -/
theorem ntB_spec (f : mm_F) (s d : Nat) (t Y : Int32) : ∀ R, R ≤ 1000 → (ntB f s d t Y R = -1 ∧ ∀ r, r < R → ¬ ntP f s d t Y r = true) ∨ ∃ r, r < R ∧ ntB f s d t Y R = nI r ∧ ntP f s d t Y r = true ∧ ∀ q, q < R → ntP f s d t Y q = true → f 141 (4 * r) ≤ f 141 (4 * q)
  | 0, _ => Or.inl ⟨rfl, fun r hr => by omega⟩
  | R + 1, hR => by
    have hx : ntB f s d t Y (R + 1) = if ntP f s d t Y R = true ∧ (ntB f s d t Y R < 0 ∨ ¬ f 141 (4 * (ntB f s d t Y R).toNatClampNeg) ≤ f 141 (4 * R)) then nI R else ntB f s d t Y R := rfl
    rcases ntB_spec f s d t Y R (by omega) with ⟨h1, h2⟩ | ⟨r, r1, r2, r3, r4⟩
    · rw [h1] at hx
      by_cases q : ntP f s d t Y R = true
      · rw [if_pos ⟨q, Or.inl (by decide)⟩] at hx
        refine Or.inr ⟨R, by omega, hx, q, fun p p1 p2 => ?_⟩
        by_cases z : p = R
        · rw [z]; exact Int32.le_refl _
        · exact absurd p2 (h2 p (by omega))
      · rw [if_neg (fun z => q z.1)] at hx
        refine Or.inl ⟨hx, fun p p1 => ?_⟩
        by_cases z : p = R
        · rw [z]; exact q
        · exact h2 p (by omega)
    · rw [r2, nI_clamp (by omega)] at hx
      by_cases q : ntP f s d t Y R = true ∧ (nI r < 0 ∨ ¬ f 141 (4 * r) ≤ f 141 (4 * R))
      · rw [if_pos q] at hx
        have q3 : ¬ f 141 (4 * r) ≤ f 141 (4 * R) := by
          rcases q.2 with z | z
          · exact absurd z (nI_lt0 r (by omega))
          · exact z
        refine Or.inr ⟨R, by omega, hx, q.1, fun p p1 p2 => ?_⟩
        by_cases z : p = R
        · rw [z]; exact Int32.le_refl _
        · exact Int32.le_trans (Int32.le_of_lt (Int32.not_le.mp q3)) (r4 p (by omega) p2)
      · rw [if_neg q] at hx
        refine Or.inr ⟨r, by omega, hx, r3, fun p p1 p2 => ?_⟩
        by_cases z : p = R
        · rw [z] at p2 ⊢
          exact Decidable.byContradiction fun y => q ⟨p2, Or.inr y⟩
        · exact r4 p (by omega) p2
/-- x is where the rows of a join that are still to come begin -/
def jX (f : mm_F) (s t d n x : Nat) (Y : Int32) (L : List Nat) : Prop := (∀ i (hi : i < L.length), tc f t d L[i] = Y → ((f 147 s = 0 ∨ ¬ tc f t 0 L[i] ≤ f 148 s) ↔ x ≤ i)) ∧ ∀ i (hi : i < L.length), x ≤ i → Y ≤ tc f t d L[i]
theorem jX_first {f : mm_F} {s t d n : Nat} {Y : Int32} {L : List Nat} (hL : TC f t d n L) (hn : n ≤ 48) (h0 : f 147 s = 0) : jX f s t d n (tb_below f t d n Y) Y L := by
  have hu := hL.up hn
  have h1 := hL.1
  refine ⟨fun i hi e => ⟨fun _ => ?_, fun _ => Or.inl h0⟩, fun i hi hx => ?_⟩
  · refine Nat.le_of_not_lt fun z => ?_
    rw [← tb_below_iff hu (by omega), hL.at hn hi, e] at z
    exact Int32.lt_irrefl z
  · refine Int32.not_lt.mp fun z => ?_
    rw [← hL.at hn hi, tb_below_iff hu (by omega)] at z
    omega
theorem jX_next {f : mm_F} {s t d n x : Nat} {Y : Int32} {L : List Nat} (hL : TC f t d n L) (hx : x < L.length) (e : tc f t d L[x] = Y) (h1 : ¬ f 147 s = 0) (hk : f 148 s = tc f t 0 L[x]) : jX f s t d n (x + 1) Y L := by
  obtain ⟨l1, l2, l3, l4⟩ := hL
  refine ⟨fun i hi ei => ?_, fun i hi hxi => ?_⟩
  · rcases Nat.lt_trichotomy i x with z | z | z
    · have := List.pairwise_iff_getElem.mp l4 i x hi hx z
      rw [lx_iff] at this
      rw [hk, Int32.le_iff_toInt_le]
      rw [ei, e] at this
      constructor
      · rintro (y | y)
        · exact absurd y h1
        · omega
      · intro y; omega
    · subst z
      rw [hk]
      constructor
      · rintro (y | y)
        · exact absurd y h1
        · exact absurd (Int32.le_refl _) y
      · intro y; omega
    · have := List.pairwise_iff_getElem.mp l4 x i hx hi z
      rw [lx_iff] at this
      rw [ei, e] at this
      refine ⟨fun _ => z, fun _ => Or.inr ?_⟩
      rw [hk, Int32.le_iff_toInt_le]
      omega
  · have := lx_le (List.pairwise_iff_getElem.mp l4 x i hx hi hxi)
    rw [e] at this; exact this
/-- the class's next row is the reference's, or both have none -/
theorem join_next {f : mm_F} {s t d n cl R x : Nat} {Y : Int32} {L : List Nat} (hr : RW f t n cl R) (hL : TC f t d n L) (hd : d < cl) (hn : n ≤ 48) (hR : R ≤ 48) (hx : jX f s t d n x Y L) :
    (∃ (h : x < L.length) (r : Nat), tc f t d L[x] = Y ∧ r < R ∧ ntB f s d (nI t) Y R = nI r ∧ f 140 r = nI t ∧ ∀ c, c < cl → f 141 (4 * r + c) = tc f t c L[x]) ∨
    ((∀ h : x < L.length, ¬ tc f t d L[x] ≤ Y) ∧ ntB f s d (nI t) Y R = -1) := by
  obtain ⟨a1, a2, a3⟩ := hr
  obtain ⟨x1, x2⟩ := hx
  obtain ⟨l1, l2, l3, l4⟩ := id hL
  have hP : ∀ r, ntP f s d (nI t) Y r = true ↔ (f 140 r = nI t ∧ f 141 (4 * r + d) = Y ∧ (f 147 s = 0 ∨ ¬ f 141 (4 * r) ≤ f 148 s)) := fun r => by
    unfold ntP
    rw [decide_eq_true_iff]
  have c0 : ∀ r u, (∀ c, c < cl → f 141 (4 * r + c) = tc f t c u) → f 141 (4 * r) = tc f t 0 u := fun r u q => q 0 (by omega)
  rcases ntB_spec f s d (nI t) Y R (by omega) with ⟨b1, b2⟩ | ⟨r, r1, r2, r3, r4⟩
  · right
    refine ⟨fun h q => ?_, b1⟩
    have e : tc f t d L[x] = Y := Int32.le_antisymm q (x2 x h (Nat.le_refl _))
    obtain ⟨r, r1, r2, r3⟩ := a1 L[x] ((l3 _).mp (List.getElem_mem h))
    refine b2 r r1 ((hP r).mpr ⟨r2, by rw [r3 d hd]; exact e, ?_⟩)
    rw [c0 r _ r3]
    exact (x1 x h e).mpr (Nat.le_refl _)
  · left
    obtain ⟨p1, p2, p3⟩ := (hP r).mp r3
    obtain ⟨u, u1, u2⟩ := a2 r r1 p1
    obtain ⟨i, hi, ei⟩ := List.getElem_of_mem ((l3 u).mpr u1)
    have eY : tc f t d L[i] = Y := by rw [ei, ← u2 d hd]; exact p2
    have hxi : x ≤ i := (x1 i hi eY).mp (by rw [ei, ← c0 r u u2]; exact p3)
    have hxl : x < L.length := by omega
    have ex : tc f t d L[x] = Y := by
      refine Int32.le_antisymm ?_ (x2 x hxl (Nat.le_refl _))
      by_cases z : x = i
      · subst z; rw [eY]; exact Int32.le_refl _
      · have := lx_le (List.pairwise_iff_getElem.mp l4 x i hxl hi (by omega))
        rw [eY] at this; exact this
    obtain ⟨q, q1, q2, q3⟩ := a1 L[x] ((l3 _).mp (List.getElem_mem hxl))
    have hq := r4 q q1 ((hP q).mpr ⟨q2, by rw [q3 d hd]; exact ex, by rw [c0 q _ q3]; exact (x1 x hxl ex).mpr (Nat.le_refl _)⟩)
    rw [c0 r u u2, c0 q _ q3, ← ei] at hq
    have hix : i = x := by
      refine Decidable.byContradiction fun z => ?_
      have := List.pairwise_iff_getElem.mp l4 x i hxl hi (by omega)
      rw [lx_iff, eY, ex] at this
      rw [Int32.le_iff_toInt_le] at hq
      omega
    subst hix
    exact ⟨hxl, r, ex, r1, r2, p1, fun c hc => by rw [u2 c hc, ei]⟩
