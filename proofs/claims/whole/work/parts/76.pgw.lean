/-! Pure: a row comes to a step that counts: class and reference do alike. -/
theorem mm_upf (f : mm_F) (a j : Nat) : mm_up f a j (f a j) = f := by
  funext x k
  unfold mm_up
  split
  · rename_i h; rw [h.1, h.2]
  · rfl
/-- a step's tally changes, and the reference's number -/
theorem tally_move {n N m R W F t0 : Nat} {cl nn P V : Nat → Nat} {L : Nat → Nat → List Nat} {f g : mm_F} {a : Nat} {x y : Int32} (hd0 : dy n N m R W F cl nn P V t0 L f g) (ha : a < N) (h1 : 1 ≤ a) (hs : sr m cl nn P V t0 L (mm_up f (56 + 2 * a) 7 x) (mm_up g 147 a y) a) : dy n N m R W F cl nn P V t0 L (mm_up f (56 + 2 * a) 7 x) (mm_up g 147 a y) ∧ vfr f (mm_up f (56 + 2 * a) 7 x) n a ∧ gfr g (mm_up g 147 a y) a ∧ rmF n F (mm_up f (56 + 2 * a) 7 x) = rmF n F f ∧ (mm_up f (56 + 2 * a) 7 x) (56 + 2 * a) 8 = f (56 + 2 * a) 8 := by
  obtain ⟨⟨⟨a1, a2, a3, _⟩, _⟩, _, hv, _⟩ := id hd0
  have vf : vfr f (mm_up f (56 + 2 * a) 7 x) n a := vfr.up (by omega)
  have gf : gfr g (mm_up g 147 a y) a := gfr.up (by omega)
  have e4 : (mm_up f (56 + 2 * a) 7 x) n 4 = f n 4 := mm_up_ne _ _ (by omega)
  refine ⟨hd0.move ha vf gf hs ?_, vf, gf, by unfold rmF; rw [e4], mm_up_ne _ _ (by omega)⟩
  obtain ⟨v, v1, v2, v3⟩ := hv
  exact ⟨v, v1, by rw [e4]; exact v2, by rw [mm_up_ne _ _ (by omega)]; exact v3⟩
theorem giv_6 {n N m R W F t0 : Nat} {cl nn P V : Nat → Nat} {L : Nat → Nat → List Nat} {f g : mm_F} {a b : Nat} (hd0 : dy n N m R W F cl nn P V t0 L f g) (h1 : 1 ≤ a) (ha : a < N) (hnc : ∀ i, a ≤ i → i < N → ¬ CA g i) (hb : b ≤ a) (hcb : cb N f b) (hT : tv n N F f a) (hr : rowA f g n (V a)) (h20 : g 136 20 = nI (V a)) (hk : g 143 a = 6) : res n N m R W F cl nn P V t0 L f a 1 (ms n N F f a 1 b) (puF (N - a) g a) b := by
  obtain ⟨⟨⟨a1, a2, a3, a4, a5, a6, a7⟩, ⟨b1, b2, b3⟩, w1, d1, e1, v1, _, s1⟩, hs, hv, _⟩ := id hd0
  obtain ⟨k0, k1, k2, k3, k4, k5⟩ := s1 a h1 ha
  obtain ⟨p1, p2, p3⟩ := k5.k67 (Or.inl hk)
  obtain ⟨w, q, q1, q2, q3, q4, q5⟩ := (hs a ha).2.2.1 (Or.inl hk)
  have hP := (v1 (a + 1) (by omega) (by omega)).2.2
  have eq := nI_clamp (n := P a + 1) (by omega)
  rw [hk] at k0
  have hw : pw g a 0 = nI w := by unfold pw pA; rw [k2, eq, Nat.add_zero, ← w1 _ (by omega)]; exact q1
  have hx : reF f n a 1 = sgF f a := by
    show wvF f n a = _
    unfold wvF
    rw [k0, if_neg (by decide), if_neg (by decide), if_neg (by decide), if_pos rfl]
  have hy : goF g a = if nI w ≤ nI q then (mm_up g 147 a (nI q), 1) else (mm_up g 147 a (nI q + 1), 0) := by
    unfold goF
    rw [hk, if_neg (by decide), if_neg (by decide), if_neg (by decide), if_pos rfl, hw, q4]
  unfold sgF at hx
  rw [q5] at hx
  have le := nI_leI (a := w) (b := q) (by omega) (by omega)
  by_cases e : w ≤ q
  · have e0 : w - q = 0 := by omega
    rw [e0, if_pos (show nI 0 = 0 from rfl)] at hx
    rw [if_pos (le.mpr e)] at hy
    have eg : mm_up g 147 a (nI q) = g := by rw [← q4]; exact mm_upf g 147 a
    rw [eg] at hy
    have key := pass_mv (F := F) (vfr.rf f n a) a1 a3 ha h1 rfl (by rw [k0]; decide) (by rw [k0]; decide) (by rw [k0]; decide) hT
    rw [puF_pass ha hy]
    refine res_1 hx hd0 ha (by omega) (fun i i1 i2 => hnc i (by omega) i2) hcb (by rw [p2]; exact hr) (by rw [p2]; exact h20) (fun fl hfl => ?_)
    obtain ⟨t1, t2⟩ := key fl hfl
    exact ⟨t1, by show _ < 2 * sgS n N F f a + 4 * (N - b) + 2 + a; omega⟩
  · have z0 : ¬ nI (w - q) = 0 := fun z => by
      have := (nI_eq (a := w - q) (b := 0) (by omega) (by omega)).mp z
      omega
    rw [if_neg z0, show nI (w - q) - 1 = nI (w - (q + 1)) by rw [show w - q = (w - (q + 1)) + 1 by omega, nI_pred]] at hx
    rw [if_neg (fun z => e (le.mp z)), nI_1] at hy
    have hs' : sr m cl nn P V t0 L (mm_up f (56 + 2 * a) 7 (nI (w - (q + 1)))) (mm_up g 147 a (nI (q + 1))) a := by
      have e1 : (mm_up g 147 a (nI (q + 1))) 143 a = 6 := by rw [mm_up_ne _ _ (by omega)]; exact hk
      refine ⟨fun z => by omega, ?_, fun _ => ⟨w, q + 1, ?_, q2, by omega, mm_up_eq _ _ _ _, mm_up_eq _ _ _ _⟩, ?_, ?_⟩
      · rw [e1]; exact fun z => absurd z (by decide)
      · rw [mm_up_ne _ _ (by omega)]; exact q1
      · rw [e1]; exact fun z => absurd z (by decide)
      · rw [e1]; exact fun z => absurd z (by decide)
    obtain ⟨d2, vf, gf, er, e8⟩ := tally_move hd0 ha h1 hs'
    obtain ⟨t1, t2⟩ := pass_mv (F := F) vf a1 a3 ha h1 er (by rw [k0]; decide) (by rw [k0]; decide) (by rw [k0]; decide) hT 0 (Or.inl rfl)
    rw [puF_stop ha hy]
    exact res_0 hx d2 h1 ha hb (CA_all gf (by rw [hk]; decide) (by rw [hk]; decide) (fun i i1 i2 => hnc i (by omega) i2)) (cb_fr vf a1 a3 ha e8 hcb) t1 (by show _ < 2 * sgS n N F f a + 4 * (N - b) + 2 + a; omega)
theorem giv_7 {n N m R W F t0 : Nat} {cl nn P V : Nat → Nat} {L : Nat → Nat → List Nat} {f g : mm_F} {a b : Nat} (hd0 : dy n N m R W F cl nn P V t0 L f g) (h1 : 1 ≤ a) (ha : a < N) (hnc : ∀ i, a ≤ i → i < N → ¬ CA g i) (hb : b ≤ a) (hcb : cb N f b) (hT : tv n N F f a) (hr : rowA f g n (V a)) (h20 : g 136 20 = nI (V a)) (hk : g 143 a = 7) : res n N m R W F cl nn P V t0 L f a 1 (ms n N F f a 1 b) (puF (N - a) g a) b := by
  obtain ⟨⟨⟨a1, a2, a3, a4, a5, a6, a7⟩, ⟨b1, b2, b3⟩, w1, d1, e1, v1, _, s1⟩, hs, hv, _⟩ := id hd0
  obtain ⟨k0, k1, k2, k3, k4, k5⟩ := s1 a h1 ha
  obtain ⟨p1, p2, p3⟩ := k5.k67 (Or.inr hk)
  obtain ⟨w, q, q1, q2, q3, q4, q5⟩ := (hs a ha).2.2.1 (Or.inr hk)
  have hP := (v1 (a + 1) (by omega) (by omega)).2.2
  have eq := nI_clamp (n := P a + 1) (by omega)
  rw [hk] at k0
  have hw : pw g a 0 = nI w := by unfold pw pA; rw [k2, eq, Nat.add_zero, ← w1 _ (by omega)]; exact q1
  have hx : reF f n a 1 = (mm_up f (56 + 2 * a) 7 (f (56 + 2 * a) 7 - 1), 1) := by
    show wvF f n a = _
    unfold wvF
    rw [k0, if_neg (by decide), if_neg (by decide), if_neg (by decide), if_neg (by decide), if_pos rfl]
  have hy : goF g a = (mm_up g 147 a (nI q + 1), 1) := by
    unfold goF
    rw [hk, if_neg (by decide), if_neg (by decide), if_neg (by decide), if_neg (by decide), if_pos rfl, q4]
  have hlt : q < w := by
    have : ¬ q = w := fun e => hnc a (Nat.le_refl _) ha (Or.inr ⟨by omega, hk, by rw [hw, q4, e]⟩)
    omega
  rw [q5, show nI (w - q) - 1 = nI (w - (q + 1)) by rw [show w - q = (w - (q + 1)) + 1 by omega, nI_pred]] at hx
  rw [nI_1] at hy
  have hs' : sr m cl nn P V t0 L (mm_up f (56 + 2 * a) 7 (nI (w - (q + 1)))) (mm_up g 147 a (nI (q + 1))) a := by
    have e1 : (mm_up g 147 a (nI (q + 1))) 143 a = 7 := by rw [mm_up_ne _ _ (by omega)]; exact hk
    refine ⟨fun z => by omega, ?_, fun _ => ⟨w, q + 1, ?_, q2, by omega, mm_up_eq _ _ _ _, mm_up_eq _ _ _ _⟩, ?_, ?_⟩
    · rw [e1]; exact fun z => absurd z (by decide)
    · rw [mm_up_ne _ _ (by omega)]; exact q1
    · rw [e1]; exact fun z => absurd z (by decide)
    · rw [e1]; exact fun z => absurd z (by decide)
  obtain ⟨d2, vf, gf, er, e8⟩ := tally_move hd0 ha h1 hs'
  have key := pass_mv (F := F) vf a1 a3 ha h1 er (by rw [k0]; decide) (by rw [k0]; decide) (by rw [k0]; decide) hT
  rw [puF_pass ha hy]
  refine res_1 hx d2 ha (by omega) (fun i i1 i2 z => hnc i (by omega) i2 (CA_fr gf (by omega) z)) (cb_fr vf a1 a3 ha e8 hcb) (fun j hj => ?_) ?_ (fun fl hfl => ?_)
  · rw [p2] at hj
    rw [mm_up_ne _ _ (by omega), mm_up_ne _ _ (by omega)]; exact hr j hj
  · rw [p2, mm_up_ne _ _ (by omega)]; exact h20
  · obtain ⟨t1, t2⟩ := key fl hfl
    exact ⟨t1, by show _ < 2 * sgS n N F f a + 4 * (N - b) + 2 + a; omega⟩
/-- a step of sums takes what it gets -/
theorem giv_89 {n N m R W F t0 : Nat} {cl nn P V : Nat → Nat} {L : Nat → Nat → List Nat} {f g : mm_F} {a b : Nat} {x : Int32} (hd0 : dy n N m R W F cl nn P V t0 L f g) (h1 : 1 ≤ a) (ha : a < N) (hnc : ∀ i, a ≤ i → i < N → ¬ CA g i) (hb : b ≤ a) (hcb : cb N f b) (hT : tv n N F f a) (hr : rowA f g n (V a)) (h20 : g 136 20 = nI (V a)) (hk : g 143 a = 8 ∨ g 143 a = 9) (hx : reF f n a 1 = (mm_up f (56 + 2 * a) 7 (f (56 + 2 * a) 7 + x), 0)) (hy : goF g a = (mm_up g 147 a (g 147 a + x), 0)) : res n N m R W F cl nn P V t0 L f a 1 (ms n N F f a 1 b) (puF (N - a) g a) b := by
  obtain ⟨⟨⟨a1, a2, a3, a4, a5, a6, a7⟩, ⟨b1, b2, b3⟩, w1, d1, e1, v1, _, s1⟩, hs, hv, _⟩ := id hd0
  obtain ⟨k0, k1, k2, k3, k4, k5⟩ := s1 a h1 ha
  have q := (hs a ha).2.2.2.1 hk
  rw [q] at hx
  have no : ∀ j : Int32, j ≠ 8 → j ≠ 9 → ¬ g 143 a = j := fun j j8 j9 z => by
    rcases hk with k | k
    · exact j8 (z.symm.trans k)
    · exact j9 (z.symm.trans k)
  have hs' : sr m cl nn P V t0 L (mm_up f (56 + 2 * a) 7 (g 147 a + x)) (mm_up g 147 a (g 147 a + x)) a := by
    have e1 : (mm_up g 147 a (g 147 a + x)) 143 a = g 143 a := mm_up_ne _ _ (by omega)
    refine ⟨fun z => by omega, ?_, ?_, fun _ => by rw [mm_up_eq, mm_up_eq], ?_⟩
    · rw [e1]; exact fun z => absurd z (no 5 (by decide) (by decide))
    · rw [e1]; rintro (z | z)
      · exact absurd z (no 6 (by decide) (by decide))
      · exact absurd z (no 7 (by decide) (by decide))
    · rw [e1]; exact fun z => absurd z (no 10 (by decide) (by decide))
  obtain ⟨d2, vf, gf, er, e8⟩ := tally_move hd0 ha h1 hs'
  have k8 : f (56 + 2 * a) 0 = 8 ∨ f (56 + 2 * a) 0 = 9 := by rw [k0]; exact hk
  obtain ⟨t1, t2⟩ := mv_rest (F := F) vf a1 a3 ha (by omega) (by rw [gmS_8 ha h1 (by rw [mm_up_ne _ _ (by omega)]; exact k8), gmS_8 ha h1 k8, e8]; exact Nat.le_refl _) hT (fun i T _ z => absurd (k0.symm.trans z) (no 10 (by decide) (by decide)))
  rw [puF_stop ha hy]
  exact res_0 hx d2 h1 ha hb (CA_all gf (no 5 (by decide) (by decide)) (no 7 (by decide) (by decide)) (fun i i1 i2 => hnc i (by omega) i2)) (cb_fr vf a1 a3 ha e8 hcb) t1 (by show _ < 2 * sgS n N F f a + 4 * (N - b) + 2 + a; omega)
theorem giv_8 {n N m R W F t0 : Nat} {cl nn P V : Nat → Nat} {L : Nat → Nat → List Nat} {f g : mm_F} {a b : Nat} (hd0 : dy n N m R W F cl nn P V t0 L f g) (h1 : 1 ≤ a) (ha : a < N) (hnc : ∀ i, a ≤ i → i < N → ¬ CA g i) (hb : b ≤ a) (hcb : cb N f b) (hT : tv n N F f a) (hr : rowA f g n (V a)) (h20 : g 136 20 = nI (V a)) (hk : g 143 a = 8) : res n N m R W F cl nn P V t0 L f a 1 (ms n N F f a 1 b) (puF (N - a) g a) b := by
  obtain ⟨⟨_, _, _, _, _, _, _, s1⟩, _⟩ := id hd0
  obtain ⟨k0, k1, k2, k3, k4, k5⟩ := s1 a h1 ha
  rw [hk] at k0
  refine giv_89 (x := 1) hd0 h1 ha hnc hb hcb hT hr h20 (Or.inl hk) ?_ ?_
  · show wvF f n a = _
    unfold wvF
    rw [k0]; rfl
  · unfold goF
    rw [hk]; rfl
theorem giv_9 {n N m R W F t0 : Nat} {cl nn P V : Nat → Nat} {L : Nat → Nat → List Nat} {f g : mm_F} {a b : Nat} (hd0 : dy n N m R W F cl nn P V t0 L f g) (h1 : 1 ≤ a) (ha : a < N) (hnc : ∀ i, a ≤ i → i < N → ¬ CA g i) (hb : b ≤ a) (hcb : cb N f b) (hT : tv n N F f a) (hr : rowA f g n (V a)) (h20 : g 136 20 = nI (V a)) (hk : g 143 a = 9) : res n N m R W F cl nn P V t0 L f a 1 (ms n N F f a 1 b) (puF (N - a) g a) b := by
  obtain ⟨⟨⟨a1, a2, a3, a4, a5, a6, a7⟩, _, w1, _, _, v1, _, s1⟩, _⟩ := id hd0
  obtain ⟨k0, k1, k2, k3, k4, k5⟩ := s1 a h1 ha
  obtain ⟨p1, p2, c, c1, c2⟩ := k5.k9 hk
  have hP := (v1 (a + 1) (by omega) (by omega)).2.2
  have hV := (v1 a h1 (by omega)).1
  have ep := nI_clamp (n := P a) (by omega)
  have eq := nI_clamp (n := P a + 1) (by omega)
  have ec := nI_clamp (n := c) (by omega)
  rw [hk] at k0
  refine giv_89 (x := f (n + 1) c) hd0 h1 ha hnc hb hcb hT hr h20 (Or.inr hk) ?_ ?_
  · show wvF f n a = _
    unfold wvF
    rw [k0]
    show (mm_up f (56 + 2 * a) 7 (f (56 + 2 * a) 7 + clF f n a 1), (0 : Int32)) = _
    unfold clF
    rw [k1, ep, c2, ec]
  · unfold goF
    rw [hk]
    show (mm_up g 147 a (g 147 a + g 146 (pw g a 0).toNatClampNeg), (0 : Int32)) = _
    unfold pw pA
    rw [k2, eq, Nat.add_zero, ← w1 _ (by omega), c2, ec, hr c c1]
theorem nI_nz {T : Nat} (h1 : 1 ≤ T) (h2 : T ≤ 2 ^ 31) : ¬ nI T = 0 := fun e => by
  have h := congrArg Int32.toBitVec e
  have h3 := congrArg BitVec.toNat h
  change T % 2 ^ 32 = 0 at h3
  omega
theorem rnF_gfr (g : mm_F) (a : Nat) : gfr g (rnF g a).1 a := by
  unfold rnF
  split
  · exact (((((gfr.up (by omega)).tr (gfr.up (by omega))).tr (gfr.up (by omega))).tr (gfr.up (by omega))).tr (gfr.up (by omega))).tr (gfr.up (by omega))
  · exact ((gfr.up (by omega)).tr (gfr.up (by omega))).tr (gfr.up (by omega))
theorem rnF_17 (g : mm_F) (a : Nat) : (rnF g a).1 136 17 = g 136 17 := by
  unfold rnF
  split
  · dsimp only
    rw [mm_up_ne _ _ (by omega), mm_up_ne _ _ (by omega), mm_up_ne _ _ (by omega), mm_up_ne _ _ (by omega), mm_up_ne _ _ (by omega), mm_up_ne _ _ (by omega)]
  · dsimp only
    rw [mm_up_ne _ _ (by omega), mm_up_ne _ _ (by omega), mm_up_ne _ _ (by omega)]
theorem agF_fields {f : mm_F} {n s : Nat} {x : Int32} (hn : 153 ≤ n) (hs : s < 39) : (agF f n s x).1 n 4 = f n 4 ∧ (agF f n s x).1 (56 + 2 * s) 8 = f (56 + 2 * s) 8 ∧ (agF f n s x).1 (56 + 2 * s) 0 = f (56 + 2 * s) 0 ∧ (((agF f n s x).2 = 0 ∧ (agF f n s x).1 (56 + 2 * s) 7 = f (56 + 2 * s) 7 + 1) ∨ ((agF f n s x).2 = 1 ∧ (agF f n s x).1 (56 + 2 * s) 7 = 1 ∧ ¬ f (56 + 2 * s) 7 = 0)) := by
  unfold agF
  split
  · dsimp only
    refine ⟨?_, ?_, ?_, Or.inl ⟨rfl, mm_up_eq _ _ _ _⟩⟩
    · rw [mm_up_ne _ _ (by omega), mm_up_ne _ _ (by omega)]
    · rw [mm_up_ne _ _ (by omega), mm_up_ne _ _ (by omega)]
    · rw [mm_up_ne _ _ (by omega), mm_up_ne _ _ (by omega)]
  · rename_i q
    dsimp only
    refine ⟨?_, ?_, ?_, Or.inr ⟨rfl, mm_up_eq _ _ _ _, fun z => q (Or.inl z)⟩⟩
    · rw [mm_up_ne _ _ (by omega), mm_up_ne _ _ (by omega)]
      unfold wgF
      rw [mm_up_ne _ _ (by omega), mm_up_ne _ _ (by omega)]
    · rw [mm_up_ne _ _ (by omega), mm_up_ne _ _ (by omega)]
      unfold wgF
      rw [mm_up_ne _ _ (by omega), mm_up_ne _ _ (by omega)]
    · rw [mm_up_ne _ _ (by omega), mm_up_ne _ _ (by omega)]
      unfold wgF
      rw [mm_up_ne _ _ (by omega), mm_up_ne _ _ (by omega)]
theorem giv_10 {n N m R W F t0 : Nat} {cl nn P V : Nat → Nat} {L : Nat → Nat → List Nat} {f g : mm_F} {a b : Nat} (hd0 : dy n N m R W F cl nn P V t0 L f g) (h1 : 1 ≤ a) (ha : a < N) (hnc : ∀ i, a ≤ i → i < N → ¬ CA g i) (hb : b ≤ a) (hcb : cb N f b) (hT : tv n N F f a) (hr : rowA f g n (V a)) (h20 : g 136 20 = nI (V a)) (hk : g 143 a = 10) : res n N m R W F cl nn P V t0 L f a 1 (ms n N F f a 1 b) (puF (N - a) g a) b := by
  obtain ⟨⟨⟨a1, a2, a3, a4, a5, a6, a7⟩, ⟨b1, b2, b3⟩, w1, d1, e1, v1, _, s1⟩, hs, hv, _⟩ := id hd0
  obtain ⟨k0, k1, k2, k3, k4, k5⟩ := s1 a h1 ha
  obtain ⟨p1, p2, c, c1, c2⟩ := k5.k10 hk
  obtain ⟨q1, q2, q3⟩ := (hs a ha).2.2.2.2 hk
  have hP := (v1 (a + 1) (by omega) (by omega)).2.2
  have hV := (v1 a h1 (by omega)).1
  have ep := nI_clamp (n := P a) (by omega)
  have eq := nI_clamp (n := P a + 1) (by omega)
  have ec := nI_clamp (n := c) (by omega)
  rw [hk] at k0
  have hw : pw g a 0 = nI c := by unfold pw pA; rw [k2, eq, Nat.add_zero, ← w1 _ (by omega)]; exact c2
  have hx : reF f n a 1 = agF f n a (f (n + 1) c) := by
    show wvF f n a = _
    unfold wvF
    rw [k0]
    show agF f n a (clF f n a 1) = _
    unfold clF
    rw [k1, ep, c2, ec]
  have hy : goF g a = rnF g a := by
    unfold goF
    rw [hk]; rfl
  obtain ⟨r1, r2, r3, r4, r5⟩ := groups_give (n := n) (s := a) (x := f (n + 1) c) a1 (by omega) q1 q2 q3 (by rw [hw, ec]; exact hr c c1)
  obtain ⟨m1, m2, m3, m4⟩ := agF_fields (f := f) (n := n) (s := a) (x := f (n + 1) c) a1 (by omega)
  have vf : vfr f (agF f n a (f (n + 1) c)).1 n a := agF_vfr
  have gf := rnF_gfr g a
  have er : rmF n F (agF f n a (f (n + 1) c)).1 = rmF n F f := by unfold rmF; rw [m1]
  obtain ⟨T, T1, T2⟩ : ∃ T, f (56 + 2 * a) 7 = nI T ∧ T + 1 ≤ F + 1 := by
    obtain ⟨T, T1, T2⟩ := hT (a - 1) (by omega) (by rw [show a - 1 + 1 = a by omega]; exact k0)
    rw [show a - 1 + 1 = a by omega] at T1 T2
    rw [if_pos rfl] at T2
    exact ⟨T, T1, by omega⟩
  have hT' : ∃ T', (agF f n a (f (n + 1) c)).1 (56 + 2 * a) 7 = nI T' ∧ 1 ≤ T' ∧ T' ≤ T + 1 := by
    rcases m4 with ⟨_, z⟩ | ⟨_, z, _⟩
    · exact ⟨T + 1, by rw [z, T1, nI_1], by omega, Nat.le_refl _⟩
    · exact ⟨1, z, Nat.le_refl _, by omega⟩
  obtain ⟨T', T3, T4, T5⟩ := hT'
  have hn0 : ¬ (agF f n a (f (n + 1) c)).1 (56 + 2 * a) 7 = 0 := by rw [T3]; exact nI_nz T4 (by omega)
  have e143 : (rnF g a).1 143 a = 10 := by rw [gf 143 a (by omega) (by omega) (by omega) (by omega)]; exact hk
  have d2 : dy n N m R W F cl nn P V t0 L (agF f n a (f (n + 1) c)).1 (rnF g a).1 := by
    refine hd0.move ha vf gf ⟨fun z => by omega, ?_, ?_, ?_, fun _ => ⟨r2, ⟨fun z => absurd z hn0, fun z => absurd z r4⟩, fun _ => r3⟩⟩ ?_
    · rw [e143]; exact fun z => absurd z (by decide)
    · rw [e143]; exact fun z => absurd z (by decide)
    · rw [e143]; exact fun z => absurd z (by decide)
    · obtain ⟨v, v1, v2, v3⟩ := hv
      exact ⟨v, v1, by rw [m1]; exact v2, by rw [rnF_17]; exact v3⟩
  have hTa : ∀ i T, i + 1 = a → f (56 + 2 * a) 0 = 10 → f (56 + 2 * a) 7 = nI T → ∃ T', (agF f n a (f (n + 1) c)).1 (56 + 2 * a) 7 = nI T' ∧ T' ≤ T + if a = a then 1 else 0 := fun i U _ _ hU => by
    rw [if_pos rfl]
    rcases m4 with ⟨_, z⟩ | ⟨_, z, _⟩
    · exact ⟨U + 1, by rw [z, hU, nI_1], Nat.le_refl _⟩
    · exact ⟨1, z, by omega⟩
  have low : ∀ fl, fl = 0 ∨ fl = a + 1 → gmS n N F (agF f n a (f (n + 1) c)).1 fl (a - 1) ≤ gmS n N F f a (a - 1) := fun fl hfl => gmS_low vf a1 a3 ha h1 (by omega) hfl
  have ev : ∀ fl, fl = 0 ∨ fl = a + 1 → gmS n N F (agF f n a (f (n + 1) c)).1 fl a = gmS n N F (agF f n a (f (n + 1) c)).1 fl (a - 1) + owF N (agF f n a (f (n + 1) c)).1 a := fun fl hfl => by
    rw [gmS_p ha h1 (by rw [m3, k0]; decide) (by rw [m3, k0]; decide), if_neg (by omega)]; rfl
  have ev2 : gmS n N F f a a = gmS n N F f a (a - 1) + 1 + owF N f a := by
    rw [gmS_p ha h1 (by rw [k0]; decide) (by rw [k0]; decide), if_pos rfl]
  have cb1 := cb_fr vf a1 a3 ha m2 hcb
  have ca1 := CA_all gf (by rw [hk]; decide) (by rw [hk]; decide) (fun i i1 i2 => hnc i (by omega) i2) (N := N)
  have o8 : f (56 + 2 * a) 8 = 0 := hcb.1 a hb ha
  have ow1 : owF N (agF f n a (f (n + 1) c)).1 a = 1 := by
    unfold owF
    rw [if_pos ha, m3, if_pos k0, if_pos ⟨hn0, by rw [m2]; exact o8⟩]
  rcases m4 with ⟨z, z2⟩ | ⟨z, z2, z3⟩
  · have y : goF g a = ((rnF g a).1, 0) := by rw [hy]; rw [z] at r1; rw [r1]
    rw [puF_stop ha y]
    obtain ⟨t1, t2⟩ := mv_rest vf a1 a3 ha (by omega) (by have := low 0 (Or.inl rfl); rw [ev 0 (Or.inl rfl), ev2, ow1]; omega) hT hTa
    exact res_0 (hx.trans (by rw [← z])) d2 h1 ha hb ca1 cb1 t1 (by show _ < 2 * sgS n N F f a + 4 * (N - b) + 2 + a; omega)
  · have y1 : (rnF g a).2 = 1 := by rw [← r1]; exact z
    have y : goF g a = ((rnF g a).1, 1) := by rw [hy, ← y1]
    rw [puF_pass ha y]
    obtain ⟨x1, x2⟩ := r5 y1
    have ow2 : owF N f a = 1 := by
      unfold owF
      rw [if_pos ha, if_pos k0, if_pos ⟨z3, o8⟩]
    refine res_1 (hx.trans (by rw [← z])) d2 ha (by omega) (fun i i1 i2 => ca1 i (by omega) i2) cb1 (by rw [p2]; exact x1) (by rw [p2]; exact x2) (fun fl hfl => ?_)
    obtain ⟨t1, t2⟩ := mv_give vf a1 a3 ha (by omega) hfl (by have := low fl hfl; rw [ev fl hfl, ev2, ow1, ow2]; omega) hT hTa
    exact ⟨t1, by show _ < 2 * sgS n N F f a + 4 * (N - b) + 2 + a; omega⟩
