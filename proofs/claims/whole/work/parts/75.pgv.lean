/-! Pure: a row comes to a step: class and reference do alike. -/
theorem gst.k3 {f : mm_F} {W m p v p' v' : Nat} {cl : Nat → Nat} {k : Int32} (hk : k = 3) (h : gst f W m cl k p v p' v') : p' = p + 3 ∧ v' = v ∧ (∃ c, c < v ∧ f 54 p = nI c) ∧ btw 0 5 (f 54 (p + 1)) = true := by
  subst hk
  rcases h with ⟨k, r⟩ | ⟨k, _⟩ | ⟨k, _⟩ | ⟨k, _⟩ | ⟨k, _⟩ | ⟨k, _⟩ | ⟨k, _⟩
  · exact r
  all_goals exact absurd k (by decide)
theorem gst.k4 {f : mm_F} {W m p v p' v' : Nat} {cl : Nat → Nat} {k : Int32} (hk : k = 4) (h : gst f W m cl k p v p' v') : ∃ n, 1 ≤ n ∧ n ≤ 8 ∧ f 54 p = nI n ∧ p' = p + n + 1 ∧ v' = n ∧ ∀ i, i < n → ∃ c, c < v ∧ f 54 (p + 1 + i) = nI c := by
  subst hk
  rcases h with ⟨k, _⟩ | ⟨k, r⟩ | ⟨k, _⟩ | ⟨k, _⟩ | ⟨k, _⟩ | ⟨k, _⟩ | ⟨k, _⟩
  · exact absurd k (by decide)
  · exact r
  all_goals exact absurd k (by decide)
theorem gst.k5 {f : mm_F} {W m p v p' v' : Nat} {cl : Nat → Nat} {k : Int32} (hk : k = 5) (h : gst f W m cl k p v p' v') : p' = p + 3 ∧ ∃ t d c, t < m ∧ d < cl t ∧ c < v ∧ f 54 p = nI t ∧ f 54 (p + 1) = nI d ∧ f 54 (p + 2) = nI c ∧ v' = v + cl t ∧ v' ≤ 8 ∧ ¬ f (5 + 12 * t) d = 0 := by
  subst hk
  rcases h with ⟨k, _⟩ | ⟨k, _⟩ | ⟨k, r⟩ | ⟨k, _⟩ | ⟨k, _⟩ | ⟨k, _⟩ | ⟨k, _⟩
  · exact absurd k (by decide)
  · exact absurd k (by decide)
  · exact r
  all_goals exact absurd k (by decide)
theorem gst.k67 {f : mm_F} {W m p v p' v' : Nat} {cl : Nat → Nat} {k : Int32} (hk : k = 6 ∨ k = 7) (h : gst f W m cl k p v p' v') : p' = p + 1 ∧ v' = v ∧ ¬ f 54 p < 0 := by
  rcases h with ⟨k, _⟩ | ⟨k, _⟩ | ⟨k, _⟩ | ⟨_, r⟩ | ⟨k, _⟩ | ⟨k, _⟩ | ⟨k, _⟩
  · rcases hk with hk | hk <;> rw [hk] at k <;> exact absurd k (by decide)
  · rcases hk with hk | hk <;> rw [hk] at k <;> exact absurd k (by decide)
  · rcases hk with hk | hk <;> rw [hk] at k <;> exact absurd k (by decide)
  · exact r
  all_goals rcases hk with hk | hk <;> rw [hk] at k <;> exact absurd k (by decide)
theorem gst.k8 {f : mm_F} {W m p v p' v' : Nat} {cl : Nat → Nat} {k : Int32} (hk : k = 8) (h : gst f W m cl k p v p' v') : p' = p ∧ v' = 1 := by
  subst hk
  rcases h with ⟨k, _⟩ | ⟨k, _⟩ | ⟨k, _⟩ | ⟨k, _⟩ | ⟨_, r⟩ | ⟨k, _⟩ | ⟨k, _⟩
  · exact absurd k (by decide)
  · exact absurd k (by decide)
  · exact absurd k (by decide)
  · exact absurd k (by decide)
  · exact r
  all_goals exact absurd k (by decide)
theorem gst.k9 {f : mm_F} {W m p v p' v' : Nat} {cl : Nat → Nat} {k : Int32} (hk : k = 9) (h : gst f W m cl k p v p' v') : p' = p + 1 ∧ v' = 1 ∧ ∃ c, c < v ∧ f 54 p = nI c := by
  subst hk
  rcases h with ⟨k, _⟩ | ⟨k, _⟩ | ⟨k, _⟩ | ⟨k, _⟩ | ⟨k, _⟩ | ⟨_, r⟩ | ⟨k, _⟩
  · exact absurd k (by decide)
  · exact absurd k (by decide)
  · exact absurd k (by decide)
  · exact absurd k (by decide)
  · exact absurd k (by decide)
  · exact r
  · exact absurd k (by decide)
theorem gst.k10 {f : mm_F} {W m p v p' v' : Nat} {cl : Nat → Nat} {k : Int32} (hk : k = 10) (h : gst f W m cl k p v p' v') : p' = p + 1 ∧ v' = 2 ∧ ∃ c, c < v ∧ f 54 p = nI c := by
  subst hk
  rcases h with ⟨k, _⟩ | ⟨k, _⟩ | ⟨k, _⟩ | ⟨k, _⟩ | ⟨k, _⟩ | ⟨k, _⟩ | ⟨_, r⟩
  · exact absurd k (by decide)
  · exact absurd k (by decide)
  · exact absurd k (by decide)
  · exact absurd k (by decide)
  · exact absurd k (by decide)
  · exact absurd k (by decide)
  · exact r
theorem gst.kinds {f : mm_F} {W m p v p' v' : Nat} {cl : Nat → Nat} {k : Int32} (h : gst f W m cl k p v p' v') : k = 3 ∨ k = 4 ∨ k = 5 ∨ k = 6 ∨ k = 7 ∨ k = 8 ∨ k = 9 ∨ k = 10 := by
  rcases h with ⟨k, _⟩ | ⟨k, _⟩ | ⟨k, _⟩ | ⟨k | k, _⟩ | ⟨k, _⟩ | ⟨k, _⟩ | ⟨k, _⟩ <;> simp [k]
theorem CA_fr {g g1 : mm_F} {a i : Nat} (h : gfr g g1 a) (hi : ¬ i = a) (hc : CA g1 i) : CA g i := by
  have d := h.dgr
  unfold CA pw pA at hc ⊢
  rw [d.2.1 143 (by omega) (by omega), d.2.1 142 (by omega) (by omega), d.2.1 144 (by omega) (by omega), h 149 i (by omega) (by omega) (by omega) (by omega), h 147 i (by omega) (by omega) (by omega) (by omega)] at hc
  exact hc
theorem CA_all {g g1 : mm_F} {a N : Nat} (h : gfr g g1 a) (h5 : ¬ g 143 a = 5) (h7 : ¬ g 143 a = 7) (hn : ∀ i, a < i → i < N → ¬ CA g i) : ∀ i, a ≤ i → i < N → ¬ CA g1 i := fun i i1 i2 z => by
  by_cases e : i = a
  · rw [e] at z
    have e3 : g1 143 a = g 143 a := h 143 a (by omega) (by omega) (by omega) (by omega)
    rcases z with ⟨z, _⟩ | ⟨_, z, _⟩
    · exact h5 (e3.symm.trans z)
    · exact h7 (e3.symm.trans z)
  · exact hn i (by omega) i2 (CA_fr h e z)
theorem cb_fr {n N a b : Nat} {f f1 : mm_F} (h : vfr f f1 n a) (hn : 153 ≤ n) (hN : N ≤ 39) (ha : a < N) (h8 : f1 (56 + 2 * a) 8 = f (56 + 2 * a) 8) (hc : cb N f b) : cb N f1 b := by
  have e8 : ∀ i, i < N → f1 (56 + 2 * i) 8 = f (56 + 2 * i) 8 := fun i hi => by
    by_cases q : i = a
    · rw [q]; exact h8
    · exact h.other hn hN hi q
  obtain ⟨c1, c2⟩ := hc
  refine ⟨fun i q1 q2 => by rw [e8 i q2]; exact c1 i q1 q2, fun q => ?_⟩
  obtain ⟨d1, d2, d3, d4⟩ := c2 q
  rw [e8 (b - 1) (by omega), h _ 0 (by omega) (by omega) (by omega) (by omega)]
  exact ⟨d1, d2, d3, d4⟩
theorem owF_p {N a : Nat} {f : mm_F} (h10 : ¬ f (56 + 2 * a) 0 = 10) (h8 : ¬ (f (56 + 2 * a) 0 = 8 ∨ f (56 + 2 * a) 0 = 9)) : owF N f a = 0 := by
  unfold owF
  rw [if_neg h10, if_neg h8]
  split <;> rfl
theorem puF_step {N a : Nat} {g : mm_F} (ha : a < N) : puF (N - a) g a = if (goF g a).2 = 0 then (goF g a).1 else puF (N - (a + 1)) (goF g a).1 (a + 1) := by
  rw [show N - a = (N - (a + 1)) + 1 by omega]
  rfl
theorem puF_pass {N a : Nat} {g g1 : mm_F} (ha : a < N) (h : goF g a = (g1, 1)) : puF (N - a) g a = puF (N - (a + 1)) g1 (a + 1) := by
  rw [puF_step ha, h]; rfl
theorem puF_stop {N a : Nat} {g g1 : mm_F} (ha : a < N) (h : goF g a = (g1, 0)) : puF (N - a) g a = g1 := by
  rw [puF_step ha, h]; rfl
/-- a step that passes rows on, one for one at most: the bound goes down -/
theorem pass_mv {n N F a : Nat} {f f1 : mm_F} (h : vfr f f1 n a) (hn : 153 ≤ n) (hN : N ≤ 39) (ha : a < N) (h1 : 1 ≤ a) (hr : rmF n F f1 = rmF n F f) (k5 : ¬ f (56 + 2 * a) 0 = 5) (k10 : ¬ f (56 + 2 * a) 0 = 10) (k8 : ¬ (f (56 + 2 * a) 0 = 8 ∨ f (56 + 2 * a) 0 = 9)) (hT : tv n N F f a) : ∀ fl, fl = 0 ∨ fl = a + 1 → tv n N F f1 fl ∧ sgS n N F f1 fl + 1 ≤ sgS n N F f a := by
  intro fl hfl
  have e0 : f1 (56 + 2 * a) 0 = f (56 + 2 * a) 0 := h _ 0 (by omega) (by omega) (by omega) (by omega)
  refine mv_give h hn hN ha (by omega) hfl ?_ hT (fun i T _ z => absurd z k10)
  rw [gmS_p ha h1 (by rw [e0]; exact k5) (by rw [e0]; exact k8), gmS_p ha h1 k5 k8, if_neg (by omega), if_pos rfl, owF_p (by rw [e0]; exact k10) (by rw [e0]; exact k8), owF_p k10 k8]
  have := gmS_low (F := F) (fl := a) h hn hN ha h1 (by omega) hfl
  omega
/-- what stands behind a state in which a row is on its way to step a -/
theorem giv_3 {n N m R W F t0 : Nat} {cl nn P V : Nat → Nat} {L : Nat → Nat → List Nat} {f g : mm_F} {a b : Nat} (hd0 : dy n N m R W F cl nn P V t0 L f g) (h1 : 1 ≤ a) (ha : a < N) (hnc : ∀ i, a ≤ i → i < N → ¬ CA g i) (hb : b ≤ a) (hcb : cb N f b) (hT : tv n N F f a) (hr : rowA f g n (V a)) (h20 : g 136 20 = nI (V a)) (hk : g 143 a = 3) : res n N m R W F cl nn P V t0 L f a 1 (ms n N F f a 1 b) (puF (N - a) g a) b := by
  obtain ⟨⟨⟨a1, a2, a3, a4, a5, a6, a7⟩, ⟨b1, b2, b3⟩, w1, d1, e1, v1, _, s1⟩, _⟩ := id hd0
  obtain ⟨k0, k1, k2, k3, k4, k5⟩ := s1 a h1 ha
  obtain ⟨p1, p2, ⟨c, c1, c2⟩, p3⟩ := k5.k3 hk
  have hP := (v1 (a + 1) (by omega) (by omega)).2.2
  have hV := (v1 a h1 (by omega)).1
  have ep := nI_clamp (n := P a) (by omega)
  have eq := nI_clamp (n := P a + 1) (by omega)
  have ec := nI_clamp (n := c) (by omega)
  have w : ∀ j, j < W → g 142 j = f 54 j := fun j hj => (w1 j hj).symm
  rw [hk] at k0
  have hx : reF f n a 1 = (f, bI (hlF (f (n + 1) c) (f 54 (P a + 2)) (f 54 (P a + 3)))) := by
    show wvF f n a = _
    unfold wvF clF
    rw [k0, if_pos rfl, k1, ep, c2, ec]
  have hy : goF g a = (g, bI (hlF (f (n + 1) c) (f 54 (P a + 2)) (f 54 (P a + 3)))) := by
    unfold goF pw pA
    rw [hk, if_pos rfl, k2, eq, w _ (by omega), w _ (by omega), w _ (by omega), Nat.add_zero, c2, ec, ← hr c c1, ps_hl p3]
  have key := pass_mv (F := F) (vfr.rf f n a) a1 a3 ha h1 rfl (by rw [k0]; decide) (by rw [k0]; decide) (by rw [k0]; decide) hT
  rw [puF_step ha, hy]
  generalize hlF (f (n + 1) c) (f 54 (P a + 2)) (f 54 (P a + 3)) = B at hx
  cases B with
  | false =>
    rw [show bI false = 0 from rfl] at hx ⊢
    rw [if_pos rfl]
    obtain ⟨t1, t2⟩ := key 0 (Or.inl rfl)
    exact res_0 hx hd0 h1 ha hb hnc hcb t1 (by show _ < 2 * sgS n N F f a + 4 * (N - b) + 2 + a; omega)
  | true =>
    rw [show bI true = 1 from rfl] at hx ⊢
    rw [if_neg (by show ¬ (1 : Int32) = 0; decide)]
    refine res_1 hx hd0 ha (by omega) (fun i i1 i2 => hnc i (by omega) i2) hcb (by rw [p2]; exact hr) (by rw [p2]; exact h20) (fun fl hfl => ?_)
    obtain ⟨t1, t2⟩ := key fl hfl
    exact ⟨t1, by show _ < 2 * sgS n N F f a + 4 * (N - b) + 2 + a; omega⟩
theorem giv_4 {n N m R W F t0 : Nat} {cl nn P V : Nat → Nat} {L : Nat → Nat → List Nat} {f g : mm_F} {a b : Nat} (hd0 : dy n N m R W F cl nn P V t0 L f g) (h1 : 1 ≤ a) (ha : a < N) (hnc : ∀ i, a ≤ i → i < N → ¬ CA g i) (hb : b ≤ a) (hcb : cb N f b) (hT : tv n N F f a) (hr : rowA f g n (V a)) (h20 : g 136 20 = nI (V a)) (hk : g 143 a = 4) : res n N m R W F cl nn P V t0 L f a 1 (ms n N F f a 1 b) (puF (N - a) g a) b := by
  obtain ⟨⟨⟨a1, a2, a3, a4, a5, a6, a7⟩, ⟨b1, b2, b3⟩, w1, d1, e1, v1, _, s1⟩, _, hv, _⟩ := id hd0
  obtain ⟨k0, k1, k2, k3, k4, k5⟩ := s1 a h1 ha
  obtain ⟨k, n1, n2, n3, n4, n5, n6⟩ := k5.k4 hk
  have hP := (v1 (a + 1) (by omega) (by omega)).2.2
  have hV := (v1 a h1 (by omega)).1
  have ep := nI_clamp (n := P a) (by omega)
  have ek := nI_clamp (n := k) (by omega)
  rw [hk] at k0
  have hx : reF f n a 1 = (piF f n a (P a) k, 1) := by
    show wvF f n a = _
    unfold wvF
    rw [k0, if_neg (by decide), if_pos rfl, k1, ep, n3, ek]
  have hy : goF g a = (chF g a, 1) := by
    unfold goF
    rw [hk, if_neg (by decide), if_pos rfl]
  obtain ⟨r1, r2⟩ := pick_row (s := a) (p := P a) (k := k) hr hV k2 (by omega) (by rw [← w1 _ (by omega)]; exact n3) n2 (fun j hj => by
    obtain ⟨c, c1, c2⟩ := n6 j hj
    exact ⟨c, c1, c2, by rw [← w1 _ (by omega)]; exact c2⟩)
  have vf : vfr f (piF f n a (P a) k) n a := piF_vfr
  have gf : gfr g (chF g a) a := fun x j q1 q2 q3 q4 => by
    unfold chF
    rw [mm_up_ne _ _ (by omega)]
    unfold chR
    rw [if_neg (by omega)]
    unfold chL
    rw [if_neg (by omega)]
  have e4 : (piF f n a (P a) k) n 4 = f n 4 := by
    unfold piF cpC pcF
    rw [if_neg (by omega), if_neg (by omega)]
  have d1 : dy n N m R W F cl nn P V t0 L (piF f n a (P a) k) (chF g a) := by
    refine hd0.move ha vf gf ?_ ?_
    · have e : (chF g a) 143 a = 4 := by rw [gf 143 a (by omega) (by omega) (by omega) (by omega)]; exact hk
      refine ⟨fun z => by omega, ?_, ?_, ?_, ?_⟩ <;> rw [e] <;> intro z <;> exact absurd z (by decide)
    · obtain ⟨v, v1, v2, v3⟩ := hv
      refine ⟨v, v1, by rw [e4]; exact v2, ?_⟩
      unfold chF
      rw [mm_up_ne _ _ (by omega)]
      unfold chR
      rw [if_neg (by omega)]
      unfold chL
      rw [if_neg (by omega)]
      exact v3
  have key := pass_mv (F := F) vf a1 a3 ha h1 (by unfold rmF; rw [e4]) (by rw [k0]; decide) (by rw [k0]; decide) (by rw [k0]; decide) hT
  rw [puF_pass ha hy]
  refine res_1 hx d1 ha (by omega) (fun i i1 i2 z => hnc i (by omega) i2 (CA_fr gf (by omega) z)) (cb_fr vf a1 a3 ha ?_ hcb) (by rw [n5]; exact r1) (by rw [n5]; exact r2) (fun fl hfl => ?_)
  · unfold piF cpC pcF
    rw [if_neg (by omega), if_neg (by omega)]
  · obtain ⟨t1, t2⟩ := key fl hfl
    exact ⟨t1, by show _ < 2 * sgS n N F f a + 4 * (N - b) + 2 + a; omega⟩
