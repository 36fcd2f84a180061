/-! Pure: what the reference's run may lean on, out of a plan without fault. -/
theorem gst.wide {f : mm_F} {W m : Nat} {cl : Nat → Nat} {k : Int32} {p v p' v' : Nat} (h : gst f W m cl k p v p' v') (hv : v ≤ 8) (hv1 : 1 ≤ v) : v' ≤ 8 ∧ 1 ≤ v' := by
  rcases h with z | ⟨_, n, n1, n2, _, _, z, _⟩ | ⟨_, _, t, d, c, _, _, _, _, _, _, z1, z2, _⟩ | z | z | z | z
  · omega
  · omega
  · omega
  · omega
  · omega
  · omega
  · omega
theorem plan_facts {f0 f g : mm_F} {W m N : Nat} {cl P V : Nat → Nat} (hL : kL f0 f g W m cl P V N) (hN : 1 ≤ N) (hP : P N = W) (hV : V 1 ≤ 8) (hV1 : 1 ≤ V 1) : (∀ i, 1 ≤ i → i ≤ N → V i ≤ 8 ∧ 1 ≤ V i) ∧ (∀ i, 1 ≤ i → i ≤ N → P i ≤ W) := by
  have a : ∀ d, 1 + d ≤ N → V (1 + d) ≤ 8 ∧ 1 ≤ V (1 + d) := by
    intro d
    induction d with
    | zero => exact fun _ => ⟨hV, hV1⟩
    | succ d ih =>
      intro h
      obtain ⟨i1, i2⟩ := ih (by omega)
      exact (hL (1 + d) (by omega) (by omega)).2.2.2.2.2.wide i1 i2
  have b : ∀ d i, i + d = N → 1 ≤ i → P i ≤ W := by
    intro d
    induction d with
    | zero =>
      intro i h _
      have : i = N := by omega
      rw [this]; omega
    | succ d ih =>
      intro i h h1
      have := ih (i + 1) (by omega) (by omega)
      have := (hL i h1 (by omega)).2.2.2.2.2.next
      omega
  refine ⟨fun i h1 h2 => ?_, fun i h1 h2 => b (N - i) i (by omega) h1⟩
  have := a (i - 1) (by omega)
  rw [show 1 + (i - 1) = i by omega] at this
  exact this
theorem qOK_of {f0 g h : mm_F} {W m a v p' v' s : Nat} {cl : Nat → Nat} (hw : ∀ i, i < W → f0 54 i = h 142 i) (hW : W ≤ 40) (hcl : ∀ t, t < m → cl t ≤ 4) (h1 : h 144 s = nI a) (h2 : h 145 s = nI v) (hv : v ≤ 8) (hp : p' ≤ W) (q : gst f0 W m cl (h 143 s) a v p' v') : qOK h m cl s := by
  have ha := q.next
  refine ⟨a, v, h1, by omega, h2, hv, ?_⟩
  rcases q with ⟨k, e1, e2, ⟨c, c1, c2⟩, e3⟩ | ⟨k, n, n1, n2, n3, n4, n5, n6⟩ | ⟨k, e1, t, d, c, t1, d1, c1, e2, e3, e4, e5, e6, e7⟩ | ⟨k, e1, e2, e3⟩ | ⟨k, e1, e2⟩ | ⟨k, e1, e2, c, c1, c2⟩ | ⟨k, e1, e2, c, c1, c2⟩
  · rw [hw a (by omega)] at c2
    rw [k]
    refine ⟨fun _ => ⟨by omega, c, by omega, c2⟩, fun z => absurd z (by decide), fun z => absurd z (by decide), fun z => absurd z (by decide), fun z => absurd z (by decide), by decide⟩
  · rw [hw a (by omega)] at n3
    rw [k]
    refine ⟨fun z => absurd z (by decide), fun _ => ⟨n, n2, by omega, n3, fun i hi => ?_⟩, fun z => absurd z (by decide), fun z => absurd z (by decide), fun z => absurd z (by decide), by decide⟩
    obtain ⟨c, c1, c2⟩ := n6 i hi
    rw [hw _ (by omega)] at c2
    exact ⟨c, by omega, c2⟩
  · have := hcl t t1
    rw [hw a (by omega)] at e2
    rw [hw _ (by omega)] at e3
    rw [hw _ (by omega)] at e4
    rw [k]
    refine ⟨fun z => absurd z (by decide), fun z => absurd z (by decide), fun _ => ⟨by omega, t, d, c, t1, by omega, by omega, e2, e3, e4, by omega⟩, fun z => absurd z (by decide), fun z => absurd z (by decide), by decide⟩
  · have o : ∀ j : Int32, j ≠ 6 → j ≠ 7 → ¬ h 143 s = j := fun j j6 j7 z => by
      rcases k with k | k
      · exact j6 (z.symm.trans k)
      · exact j7 (z.symm.trans k)
    refine ⟨fun z => absurd z (o 3 (by decide) (by decide)), fun z => absurd z (o 4 (by decide) (by decide)), fun z => absurd z (o 5 (by decide) (by decide)), fun _ => by omega, ?_, ?_⟩
    · rintro (z | z)
      · exact absurd z (o 9 (by decide) (by decide))
      · exact absurd z (o 10 (by decide) (by decide))
    · rcases k with k | k
      · exact Or.inr (Or.inr (Or.inr (Or.inl k)))
      · exact Or.inr (Or.inr (Or.inr (Or.inr (Or.inl k))))
  · rw [k]
    refine ⟨fun z => absurd z (by decide), fun z => absurd z (by decide), fun z => absurd z (by decide), fun z => absurd z (by decide), fun z => absurd z (by decide), by decide⟩
  · rw [hw a (by omega)] at c2
    rw [k]
    refine ⟨fun z => absurd z (by decide), fun z => absurd z (by decide), fun z => absurd z (by decide), fun z => absurd z (by decide), fun _ => ⟨by omega, c, by omega, c2⟩, by decide⟩
  · rw [hw a (by omega)] at c2
    rw [k]
    refine ⟨fun z => absurd z (by decide), fun z => absurd z (by decide), fun z => absurd z (by decide), fun z => absurd z (by decide), fun _ => ⟨by omega, c, by omega, c2⟩, by decide⟩
/-- the memory from which a run of the reference starts -/
theorem r0F_row (f : mm_F) (W m : Nat) (cl : Nat → Nat) (x : Int32) {a j : Nat} (h1 : ¬ (a = 136 ∧ (j = 0 ∨ j = 16 ∨ j = 17 ∨ j = 18 ∨ j = 19 ∨ j = 28 ∨ j = 30))) (h2 : ¬ a = 147) (h3 : ¬ a = 148) (h4 : ¬ a = 149) : (r0F f W m cl x) a j = (rpF f W m cl) a j := by
  unfold r0F gdF
  rw [if_neg (by omega), mm_up_ne _ _ (by omega), mm_up_ne _ _ (by omega), mm_up_ne _ _ (by omega), mm_up_ne _ _ (by omega), mm_up_ne _ _ (by omega), mm_up_ne _ _ (by omega), mm_up_ne _ _ (by omega), mm_up_ne _ _ (by omega)]
theorem RS_of {f g : mm_F} {W m N R t p : Nat} {cl P V : Nat → Nat} {k x : Int32} (hs : kS f g W m cl) (hg : gsr f W m cl k t p) (hp : P 1 = p) (hV : V 1 = cl t) (hcl1 : ∀ t, t < m → 1 ≤ cl t) (hN : 1 ≤ N) (hN2 : N + 1 ≤ W) (hP : P N = W) (hc : (rpF g W m cl) 136 10 = nI N) (hL : kL f (ltF f) (rpF g W m cl) W m cl P V N) (h0 : (rpF g W m cl) 143 0 = k) (hR : g 136 5 = nI R) (hR2 : R ≤ 48) :
    RS (r0F g W m cl x) N m R cl ∧ ¬ (r0F g W m cl x) 143 0 = 5 := by
  obtain ⟨a1, a2, a3, a4, a5, a6, a7⟩ := id hs
  obtain ⟨g1, g2, g3, g4⟩ := hg
  have fr := rpF_fr (W := W) (m := m) (cl := cl) g
  obtain ⟨pv, pp⟩ := plan_facts hL hN hP (by rw [hV]; have := (a6 t g1).2.2; omega) (by rw [hV]; exact hcl1 t g1)
  have w142 : ∀ i, (r0F g W m cl x) 142 i = g 142 i := fun i => by
    rw [r0F_row _ _ _ _ _ (by omega) (by omega) (by omega) (by omega), fr 142 i (by omega) (by omega) (by omega) (by omega)]
  have e143 : ∀ i, (r0F g W m cl x) 143 i = (rpF g W m cl) 143 i := fun i => r0F_row _ _ _ _ _ (by omega) (by omega) (by omega) (by omega)
  have hw : ∀ i, i < W → f 54 i = (r0F g W m cl x) 142 i := fun i hi => by rw [w142]; exact a3 i hi
  have hk5 : ¬ (r0F g W m cl x) 143 0 = 5 := by
    rw [e143, h0]
    rcases g4 with ⟨z, _⟩ | ⟨z, _⟩ <;> rw [z] <;> decide
  refine ⟨⟨?_, hN, by omega, ?_, hR2, a5, fun u hu => ?_, ⟨t, g1, ?_⟩, fun z => ?_, fun s s1 s2 => ?_⟩, hk5⟩
  · rw [r0F_row _ _ _ _ _ (by omega) (by omega) (by omega) (by omega)]; exact hc
  · rw [r0F_row _ _ _ _ _ (by omega) (by omega) (by omega) (by omega), fr 136 5 (by omega) (by omega) (by omega) (by omega)]; exact hR
  · rw [r0F_row _ _ _ _ _ (by omega) (by omega) (by omega) (by omega), fr 137 u (by omega) (by omega) (by omega) (by omega)]; exact (a6 u hu).2
  · rw [← hw 1 (by omega)]; exact g2
  · rw [e143, h0] at z
    rcases g4 with ⟨y, _⟩ | ⟨y1, y2, d, y3, y4, _⟩
    · rw [y] at z; exact absurd z (by decide)
    · have := pp 1 (by omega) hN
      have := (a6 t g1).2.2
      refine ⟨d, by omega, ?_⟩
      rw [← hw 2 (by omega)]; exact y4
  · obtain ⟨b1, b2, b3, b4, b5, b6⟩ := hL s s1 s2
    refine qOK_of (g := g) (f0 := f) (a := P s + 1) (v := V s) (p' := P (s + 1)) (v' := V (s + 1)) hw a2 (fun u hu => (a6 u hu).2.2) ?_ ?_ (pv s s1 (by omega)).1 (pp (s + 1) (by omega) (by omega)) ?_
    · rw [r0F_row _ _ _ _ _ (by omega) (by omega) (by omega) (by omega)]; exact b3
    · rw [r0F_row _ _ _ _ _ (by omega) (by omega) (by omega) (by omega)]; exact b5
    · rw [e143]; exact b6
