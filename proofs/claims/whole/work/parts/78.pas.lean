/-! Pure: a row comes to a join; a step is asked; a step hears that nothing comes any more. -/
theorem tb_below_congr {f g : mm_F} {t d M : Nat} {Y : Int32} (h1 : f (12 + 12 * t + d) = g (12 + 12 * t + d)) (h2 : f (7 + 12 * t + d) = g (7 + 12 * t + d)) : tb_below f t d M Y = tb_below g t d M Y := by
  unfold tb_below tp tc to
  rw [h1, h2]
theorem tb_below_le (f : mm_F) (t d M : Nat) (Y : Int32) : tb_below f t d M Y ≤ M := cn_le _ _
theorem giv_5 {n N m R W F t0 : Nat} {cl nn P V : Nat → Nat} {L : Nat → Nat → List Nat} {f g : mm_F} {a b : Nat} (hd0 : dy n N m R W F cl nn P V t0 L f g) (h1 : 1 ≤ a) (ha : a < N) (hnc : ∀ i, a ≤ i → i < N → ¬ CA g i) (hb : b ≤ a) (hcb : cb N f b) (hT : tv n N F f a) (hr : rowA f g n (V a)) (h20 : g 136 20 = nI (V a)) (hk : g 143 a = 5) : res n N m R W F cl nn P V t0 L f a 1 (ms n N F f a 1 b) (puF (N - a) g a) b := by
  obtain ⟨⟨⟨a1, a2, a3, a4, a5, a6, a7⟩, ⟨b1, b2, b3⟩, w1, dg, e1, v1, _, s1⟩, hs, ⟨v, vv1, vv2, vv3⟩, _⟩ := id hd0
  obtain ⟨k0, k1, k2, k3, k4, k5⟩ := s1 a h1 ha
  obtain ⟨t, d, c, x, c1, c2, c3, c4, c5, c6, c7, c8, c9, c10, c11, c12, c13⟩ := (hs a ha).2.1 hk
  obtain ⟨t1, t2, t3, t4, t5, t6, t7, t8⟩ := e1 t c1
  have hP := (v1 (a + 1) (by omega) (by omega)).2.2
  have hP3 := (k5.k5 hk).1
  have hV := (v1 a h1 (by omega)).1
  have ep := nI_clamp (n := P a) (by omega)
  rw [hk] at k0
  have hcl : clF f n a 3 = g 146 c := by
    unfold clF
    rw [k1, ep, c6, nI_clamp (by omega)]; exact hr c c3
  have hjw : jwF f n a = bwF (cpC f (n + 1) (57 + 2 * a) (V a)) a t d (nn t) (g 146 c) (g 146 c) := by
    unfold jwF
    rw [hcl, k3, nI_clamp (by omega), c8, nI_clamp (by omega), c9, nI_clamp (by omega), t4, nI_clamp (by omega)]
  have hx : reF f n a 1 = wkR (jwF f n a) n a 0 := by
    show wvF f n a = _
    unfold wvF
    rw [k0]; rfl
  have hy : goF g a = (hoF g a (V a), 0) := by
    unfold goF
    rw [hk, k4, nI_clamp (by omega)]; rfl
  rw [puF_stop ha hy]
  have vf : vfr f (jwF f n a) n a := by rw [hjw]; exact (cpC_vfr (Or.inl rfl)).tr bwF_vfr
  have gf : gfr g (hoF g a (V a)) a := by
    unfold hoF
    refine gfr.tr (h := chL g a (V a)) (fun y j q1 q2 q3 q4 => ?_) ((gfr.up (by omega)).tr (gfr.up (by omega)))
    unfold chL
    rw [if_neg (by omega)]
  have jr : ∀ y j, ¬ (y = 56 + 2 * a ∧ (j = 5 ∨ j = 6)) → ¬ (y = 57 + 2 * a) → (jwF f n a) y j = f y j := fun y j q1 q2 => by
    rw [hjw]
    unfold bwF
    rw [mm_up_ne _ _ (by omega), mm_up_ne _ _ (by omega)]
    unfold cpC
    rw [if_neg (by omega)]
  have j6 : (jwF f n a) (56 + 2 * a) 6 = g 146 c := by rw [hjw]; unfold bwF; rw [mm_up_eq]
  have j5 : (jwF f n a) (56 + 2 * a) 5 = nI (tb_below g t d (nn t) (g 146 c)) := by
    rw [hjw]; unfold bwF
    rw [mm_up_ne _ _ (by omega), mm_up_eq]
    have r : ∀ y, 2 ≤ y ∧ y < 52 → (cpC f (n + 1) (57 + 2 * a) (V a)) y = g y := fun y hy => by
      rw [← dg y hy]
      funext j
      unfold cpC
      rw [if_neg (by omega)]
    rw [tb_below_congr (r _ (by omega)) (r _ (by omega))]
  have j7 : ∀ j, j < V a → (jwF f n a) (57 + 2 * a) j = f (n + 1) j := fun j hj => by
    rw [hjw]; unfold bwF
    rw [mm_up_ne _ _ (by omega), mm_up_ne _ _ (by omega)]
    unfold cpC
    rw [if_pos ⟨rfl, hj⟩]
  have h147 : (hoF g a (V a)) 147 a = 0 := by unfold hoF; rw [mm_up_eq]
  have h149 : (hoF g a (V a)) 149 a = 1 := by unfold hoF; rw [mm_up_ne _ _ (by omega), mm_up_eq]
  have h150 : ∀ j, j < V a → (hoF g a (V a)) 150 (8 * a + j) = g 146 j := fun j hj => by
    unfold hoF
    rw [mm_up_ne _ _ (by omega), mm_up_ne _ _ (by omega)]
    unfold chL
    rw [if_pos ⟨rfl, by omega, by omega⟩, show 8 * a + j - 8 * a = j by omega]
  have h17 : (hoF g a (V a)) 136 17 = g 136 17 := by
    unfold hoF
    rw [mm_up_ne _ _ (by omega), mm_up_ne _ _ (by omega)]
    unfold chL
    rw [if_neg (by omega)]
  have gT : ∀ y, y < 52 → (hoF g a (V a)) y = g y := gf.dgr.1
  have e143 : (hoF g a (V a)) 143 a = 5 := by rw [gf 143 a (by omega) (by omega) (by omega) (by omega)]; exact hk
  have d2 : dy n N m R W F cl nn P V t0 L (jwF f n a) (hoF g a (V a)) := by
    refine hd0.move ha vf gf ⟨fun z => by omega, fun _ => ⟨t, d, c, tb_below g t d (nn t) (g 146 c), c1, c2, c3, ?_, ?_, ?_, c7, ?_, ?_, j5, tb_below_le _ _ _ _ _, fun z => ?_, fun _ => ⟨?_, ?_, fun j hj => ?_⟩⟩, ?_, ?_, ?_⟩ ⟨v, vv1, ?_, by rw [h17]; exact vv3⟩
    · rw [jr _ _ (by omega) (by omega)]; exact c4
    · rw [jr _ _ (by omega) (by omega)]; exact c5
    · rw [jr _ _ (by omega) (by omega)]; exact c6
    · rw [jr _ _ (by omega) (by omega)]; exact c8
    · rw [jr _ _ (by omega) (by omega)]; exact c9
    · rw [h149] at z; exact absurd z (by decide)
    · rw [h150 c c3]
      have := jX_first (Y := g 146 c) (s := a) ((t8 d c2).congr (g := hoF g a (V a)) (gT _ (by omega)) (gT _ (by omega)) (gT _ (by omega))) t5 h147
      rw [tb_below_congr (gT _ (by omega)) (gT _ (by omega))] at this
      exact this
    · rw [j6, h150 c c3]
    · rw [j7 j hj, h150 j hj]; exact hr j hj
    · rw [e143]; exact fun z => absurd z (by decide)
    · rw [e143]; exact fun z => absurd z (by decide)
    · rw [e143]; exact fun z => absurd z (by decide)
    · rw [jr _ _ (by omega) (by omega)]; exact vv2
  have key := join_turn (fl := a) hx vf (jr _ _ (by omega) (by omega)) (jr _ _ (by omega) (by omega)) d2 h1 ha (fun i i1 i2 z => hnc i (by omega) i2 (CA_fr gf (by omega) z)) hb hcb hT e143 (by rw [h149]; decide)
  exact key
/-- a row comes to a step -/
theorem give_step {n N m R W F t0 : Nat} {cl nn P V : Nat → Nat} {L : Nat → Nat → List Nat} {f g : mm_F} {a b : Nat} (h : stt n N m R W F cl nn P V t0 L f g a 1 b) : res n N m R W F cl nn P V t0 L f a 1 (ms n N F f a 1 b) (hd N g a 1) b := by
  obtain ⟨hd0, ha, hnc, h⟩ := h
  rcases h with ⟨z, _⟩ | ⟨_, h1, hb, hcb, hT, hca, hr, h20⟩ | ⟨z, _⟩
  · exact absurd z (by decide)
  · show res n N m R W F cl nn P V t0 L f a 1 (ms n N F f a 1 b) (puF (N - a) g a) b
    have hnc' : ∀ i, a ≤ i → i < N → ¬ CA g i := fun i i1 i2 => by
      by_cases e : i = a
      · rw [e]; exact hca
      · exact hnc i (by omega) i2
    obtain ⟨⟨_, _, _, _, _, _, _, s1⟩, _⟩ := id hd0
    obtain ⟨k0, k1, k2, k3, k4, k5⟩ := s1 a h1 ha
    rcases k5.kinds with k | k | k | k | k | k | k | k
    · exact giv_3 hd0 h1 ha hnc' hb hcb hT hr h20 k
    · exact giv_4 hd0 h1 ha hnc' hb hcb hT hr h20 k
    · exact giv_5 hd0 h1 ha hnc' hb hcb hT hr h20 k
    · exact giv_6 hd0 h1 ha hnc' hb hcb hT hr h20 k
    · exact giv_7 hd0 h1 ha hnc' hb hcb hT hr h20 k
    · exact giv_8 hd0 h1 ha hnc' hb hcb hT hr h20 k
    · exact giv_9 hd0 h1 ha hnc' hb hcb hT hr h20 k
    · exact giv_10 hd0 h1 ha hnc' hb hcb hT hr h20 k
  · exact absurd z (by decide)
/-- the source is asked -/
theorem ask_0 {n N m R W F t0 : Nat} {cl nn P V : Nat → Nat} {L : Nat → Nat → List Nat} {f g : mm_F} (hd0 : dy n N m R W F cl nn P V t0 L f g) (hnc : ∀ i, 0 < i → i < N → ¬ CA g i) (hcb : cb N f 0) (hT : tv n N F f 0) : res n N m R W F cl nn P V t0 L f 0 0 (ms n N F f 0 0 0) g 0 := by
  obtain ⟨⟨⟨a1, a2, a3, a4, a5, a6, a7⟩, ⟨b1, b2, b3⟩, w1, dg, e1, v1, ⟨s1, s2, s3, s4, s5, s6, s7⟩, _⟩, hs, ⟨v, vv1, vv2, vv3⟩, ⟨h18, h19⟩, _⟩ := id hd0
  obtain ⟨c, x, low, c1, c2, c3, c4, c5, c6, c7, c8⟩ := (hs 0 (by omega)).1 rfl
  obtain ⟨t1, t2, t3, t4, t5, t6, t7, t8⟩ := e1 t0 s1
  have ha : 0 < N := a2
  have ns5 : ¬ g 143 0 = 5 := fun e => by rcases s3 with s3 | s3 <;> rw [s3] at e <;> exact absurd e (by decide)
  have ns10 : ¬ f (56 + 2 * 0) 0 = 10 := fun e => by
    have e := s2.symm.trans e
    rcases s3 with s3 | s3 <;> rw [s3] at e <;> exact absurd e (by decide)
  have hca : ∀ i, 0 ≤ i → i < N → ¬ CA g i := fun i _ i2 => by
    by_cases e : i = 0
    · rw [e]
      rintro (⟨z, _⟩ | ⟨z, _⟩)
      · exact ns5 z
      · omega
    · exact hnc i (by omega) i2
  have hx : reF f n 0 0 = wkR f n 0 2 := by
    show waF f n 0 = _
    unfold waF
    rw [if_pos]
    show f 56 0 = 1 ∨ f 56 0 = 2
    rw [s2]; exact s3
  have hgi : gI g N R 0 = ((bgF g N R).1, if (bgF g N R).2 = 0 then 1 else 0) := by rw [gI_n hca, if_pos rfl]
  have hTa : ∀ (f1 : mm_F) (i T : Nat), i + 1 = 0 → f (56 + 2 * 0) 0 = 10 → f (56 + 2 * 0) 7 = nI T → ∃ T', f1 (56 + 2 * 0) 7 = nI T' ∧ T' ≤ T + if 0 = 0 then 1 else 0 := fun _ _ _ z => by omega
  rcases source_next t7 (t8 c c1) c1 a5 s7 c7 c8 with ⟨hx1, r, r1, r2, r3, r4, r5, r6⟩ | ⟨hx1, r4⟩
  · have hwk := wkR_row (n := n) (s := 0) (e := 2) c2 c3 c4 t4 t1 s5 (by omega) (by omega) t3 (by omega) t5 (t8 c c1) dg hx1 r1
    have hnf : nsF g c R = (mm_up (mm_up (mm_up g 136 26 (g 141 (4 * r + c))) 136 27 (g 141 (4 * r))) 136 28 1, nI r) := by
      unfold nsF
      rw [r4, if_neg (nI_pos (by omega)), nI_clamp (by omega)]
    generalize hG : mm_up (mm_up (mm_up g 136 26 (g 141 (4 * r + c))) 136 27 (g 141 (4 * r))) 136 28 1 = G at hnf
    have gr : ∀ y j, ¬ (y = 136 ∧ (j = 26 ∨ j = 27 ∨ j = 28)) → G y j = g y j := fun y j q => by rw [← hG, mm_up_ne _ _ (by omega), mm_up_ne _ _ (by omega), mm_up_ne _ _ (by omega)]
    have gG : gfr g G 0 := fun y j q1 q2 q3 q4 => gr y j (by omega)
    have hcols : (g 137 (g 142 1).toNatClampNeg).toNatClampNeg = cl t0 := by rw [s7, nI_clamp (by omega), t6, nI_clamp (by omega)]
    by_cases q : v < F
    · rw [vv2, b1, if_pos ((nI_ltI (by omega) (by omega)).mpr q)] at hwk
      have hvi := viF_ok (g := G) (by rw [gr _ _ (by omega), gr _ _ (by omega), vv3, b2]; exact fun z => by have := (nI_eq (by omega) (by omega)).mp z; omega) (by rw [gr _ _ (by omega)]; exact h18)
      rw [gr 136 17 (by omega), vv3, nI_1] at hvi
      generalize hG2 : mm_up G 136 17 (nI (v + 1)) = G2 at hvi
      have g2r : ∀ y j, ¬ (y = 136 ∧ (j = 17 ∨ j = 26 ∨ j = 27 ∨ j = 28)) → G2 y j = g y j := fun y j q => by rw [← hG2, mm_up_ne _ _ (by omega), gr _ _ (by omega)]
      have hbg : bgF g N R = (puF (N - (0 + 1)) (loF G2 r 0 (cl t0)) (0 + 1), 1) := by
        unfold bgF
        rw [c6, hnf, if_neg (nI_pos (by omega))]
        dsimp only
        rw [hvi, if_neg (by show ¬ (1 : Int32) = 0; decide), nI_clamp (by omega), hcols]
      have etc : ∀ d, d < 4 → tc f t0 d (L t0 c)[x] = tc g t0 d (L t0 c)[x] := fun d hd => by unfold tc; rw [dg _ (by omega)]
      obtain ⟨z1, z2⟩ := source_row (f := f) (g := G2) (n := n) (s := 0) (t := t0) (cols := cl t0) (q := (L t0 c)[x]) (r := r) a1 (by omega) (by omega) t3 (fun d hd => by rw [g2r _ _ (by omega), etc d (by omega)]; exact r6 d hd)
      obtain ⟨m1, m2, m3, m4⟩ := wkF_fields (f := f) (n := n) (s := 0) (t := t0) (cols := cl t0) (wb := 0) (q := (L t0 c)[x]) a1 (by omega)
      have vf : vfr f (wkF f n 0 t0 (cl t0) 0 (L t0 c)[x]) n 0 := wkF_vfr
      have lo_r : ∀ y j, ¬ y = 146 → ¬ (y = 136 ∧ j = 20) → (loF G2 r 0 (cl t0)) y j = G2 y j := fun y j q1 q2 => by
        unfold loF
        rw [mm_up_ne _ _ q2]
        unfold loL
        rw [if_neg (fun z => q1 z.1)]
      have gf : gfr g (loF G2 r 0 (cl t0)) 0 := fun y j q1 q2 q3 q4 => by rw [lo_r y j q1 (by omega), g2r _ _ (by omega)]
      generalize hf1 : wkF f n 0 t0 (cl t0) 0 (L t0 c)[x] = f1 at hwk z1 m1 m2 m3 m4 vf
      generalize hg1 : loF G2 r 0 (cl t0) = g1 at hbg z1 z2 gf lo_r
      have gT : ∀ y, y < 52 → g1 y = g y := gf.dgr.1
      have etg : ∀ d, d < 4 → tc g1 t0 d (L t0 c)[x] = tc g t0 d (L t0 c)[x] := fun d hd => by unfold tc; rw [gT _ (by omega)]
      have e142 : g1 142 = g 142 := gf.dgr.2.1 142 (by omega) (by omega)
      have e143 : g1 143 = g 143 := gf.dgr.2.1 143 (by omega) (by omega)
      have no : ∀ k : Int32, k ≠ 1 → k ≠ 2 → ¬ g1 143 0 = k := fun k h1 h2 e => by
        rw [e143] at e
        rcases s3 with s3 | s3
        · exact h1 (e.symm.trans s3)
        · exact h2 (e.symm.trans s3)
      have d2 : dy n N m R W F cl nn P V t0 L f1 g1 := by
        refine hd0.move ha vf gf ⟨fun _ => ⟨c, x + 1, low, c1, by rw [show f1 56 3 = f 56 3 from m3 3 (by omega)]; exact c2, by rw [show f1 56 4 = f 56 4 from m3 4 (by omega)]; exact c3, by rw [show f1 56 5 = f 56 5 + 1 from m2, c4, nI_1], ?_, ?_, fun y => ?_, ?_⟩, fun z => absurd z (no 5 (by decide) (by decide)), ?_, ?_, fun z => absurd z (no 10 (by decide) (by decide))⟩ ⟨v + 1, by omega, by rw [m1, vv2, nI_1], ?_⟩
        · have := (t8 c c1).1; omega
        · unfold scF at c6 ⊢; rw [e142, e143]; exact c6
        · have := c7 y
          unfold nsW at this ⊢
          rw [e142, e143, show f1 56 6 = f 56 6 from m3 6 (by omega)]; exact this
        · refine sX_next ((t8 c c1).congr (gT _ (by omega)) (gT _ (by omega)) (gT _ (by omega))) hx1 ?_ ?_ ?_ ?_
          · rw [etg c (by omega)]; exact r2
          · rw [lo_r _ _ (by omega) (by omega), ← hG2, mm_up_ne _ _ (by omega), ← hG, mm_up_eq]; decide
          · rw [lo_r _ _ (by omega) (by omega), ← hG2, mm_up_ne _ _ (by omega), ← hG, mm_up_ne _ _ (by omega), mm_up_ne _ _ (by omega), mm_up_eq, etg c (by omega)]; exact r6 c c1
          · rw [lo_r _ _ (by omega) (by omega), ← hG2, mm_up_ne _ _ (by omega), ← hG, mm_up_ne _ _ (by omega), mm_up_eq, etg 0 (by omega)]; exact r6 0 (by omega)
        · rintro (z | z)
          · exact absurd z (no 6 (by decide) (by decide))
          · exact absurd z (no 7 (by decide) (by decide))
        · rintro (z | z)
          · exact absurd z (no 8 (by decide) (by decide))
          · exact absurd z (no 9 (by decide) (by decide))
        · rw [lo_r _ _ (by omega) (by omega), ← hG2, mm_up_eq]
      have er : rmF n F f1 + 1 = rmF n F f := by
        unfold rmF
        rw [m1, vv2, nI_1, nI_clamp (by omega), nI_clamp (by omega)]; omega
      refine res.turn a2 h18 h19 ?_
      rw [hgi, hbg]
      show res n N m R W F cl nn P V t0 L f 0 0 _ (puF (N - (0 + 1)) g1 (0 + 1)) 0
      refine res_1 (hx.trans hwk) d2 ha (by omega) (fun i i1 i2 z => hnc i i1 i2 (CA_fr gf (by omega) z)) (cb_fr vf a1 a3 ha (m3 8 (by omega)) hcb) (by rw [s6]; exact z1) (by rw [s6]; exact z2) (fun fl' hfl => ?_)
      obtain ⟨y1, y2⟩ := mv_give vf a1 a3 ha (by omega) hfl (show rmF n F f1 + 1 ≤ rmF n F f by omega) hT (hTa f1)
      exact ⟨y1, by show _ < 2 * sgS n N F f 0 + 4 * (N - 0) + 2 + 0; omega⟩
    · rw [vv2, b1, if_neg (fun z => q ((nI_ltI (by omega) (by omega)).mp z))] at hwk
      have hvF : v = F := by omega
      obtain ⟨y1, y2⟩ := viF_spent (g := G) (by rw [gr _ _ (by omega), gr _ _ (by omega), vv3, b2, hvF])
      have hbg : bgF g N R = ((viF G).1, 1) := by
        unfold bgF
        rw [c6, hnf, if_neg (nI_pos (by omega))]
        dsimp only
        rw [if_pos y1]
      rw [hbg] at hgi
      exact res_3 (hx.trans hwk) (grM_spent a2 h18 h19 hgi y2) y2
  · have hwk := wkR_none (n := n) (s := 0) (e := 2) c2 c3 c4 c5 t4 (by omega) (by omega) t5 (t8 c c1) dg hx1
    have hnf : nsF g c R = (g, -1) := by
      unfold nsF
      rw [r4, if_pos (by decide)]
    have hbg : bgF g N R = (g, 0) := by
      unfold bgF
      rw [c6, hnf, if_pos (by show (-1 : Int32) < 0; decide)]
    refine res.turn a2 h18 h19 ?_
    rw [hgi, hbg]
    show res n N m R W F cl nn P V t0 L f 0 0 _ g 1
    exact res_2 (hx.trans hwk) hd0 ha hnc (fun i i1 i2 => hcb.1 i (by omega) i2) hT (by show _ < 2 * sgS n N F f 0 + 4 * (N - 0) + 2 + 0; omega)
/-- a step is asked -/
theorem ask_step {n N m R W F t0 : Nat} {cl nn P V : Nat → Nat} {L : Nat → Nat → List Nat} {f g : mm_F} {a b : Nat} (h : stt n N m R W F cl nn P V t0 L f g a 0 b) : res n N m R W F cl nn P V t0 L f a 0 (ms n N F f a 0 b) (hd N g a 0) b := by
  obtain ⟨hd0, ha, hnc, h⟩ := h
  rcases h with ⟨_, hb, hcb, hT⟩ | ⟨z, _⟩ | ⟨z, _⟩
  · show res n N m R W F cl nn P V t0 L f a 0 (2 * sgS n N F f 0 + 4 * (N - b) + 2 + a) g b
    obtain ⟨⟨⟨a1, a2, a3, a4, a5, a6, a7⟩, ⟨b1, b2, b3⟩, w1, dg, e1, v1, ⟨s1, s2, s3, s4, s5, s6, s7⟩, sk⟩, hs, ⟨v, vv1, vv2, vv3⟩, ⟨h18, h19⟩, _⟩ := id hd0
    by_cases z : a = 0
    · subst z
      have hb0 : b = 0 := by
        by_cases q : b = 0
        · exact q
        · have := (hcb.2 (by omega)).1; omega
      subst hb0
      exact ask_0 hd0 hnc hcb hT
    · have h1 : 1 ≤ a := by omega
      obtain ⟨k0, k1, k2, k3, k4, k5⟩ := sk a h1 ha
      -- the base lies at a or below unless a is over
      have hba : ¬ (f (56 + 2 * a) 0 = 8 ∨ f (56 + 2 * a) 0 = 9 ∨ f (56 + 2 * a) 0 = 10) ∨ f (56 + 2 * a) 8 = 0 → b ≤ a := fun q => by
        by_cases e : b = a + 1
        · obtain ⟨y1, y2, y3, y4⟩ := hcb.2 (by omega)
          rw [e, Nat.add_sub_cancel] at y3 y4
          rcases q with q | q
          · exact absurd y4 q
          · exact absurd q y3
        · omega
      by_cases k5' : g 143 a = 5
      · have hk : f (56 + 2 * a) 0 = 5 := k0.trans k5'
        have hb' : b ≤ a := hba (Or.inl (by rw [hk]; decide))
        have hx : reF f n a 0 = wkR f n a 0 := by
          show waF f n a = _
          unfold waF
          rw [hk]; rfl
        by_cases hh : g 149 a = 0
        · obtain ⟨t, d, c, x, c1, c2, c3, c4, c5, c6, c7, c8, c9, c10, c11, c12, c13⟩ := (hs a ha).2.1 k5'
          obtain ⟨t1, t2, t3, t4, t5, t6, t7, t8⟩ := e1 t c1
          have hwk := wkR_none (n := n) (s := a) (e := 0) c8 c9 c10 c11 t4 (by omega) (by omega) t5 (t8 d c2) dg (c12 hh)
          refine res_0 (hx.trans hwk) hd0 h1 ha hb' (fun i i1 i2 z => ?_) hcb hT (by omega)
          by_cases e : i = a
          · rw [e] at z
            rcases z with ⟨_, z⟩ | ⟨_, z, _⟩
            · exact z hh
            · rw [k5'] at z; exact absurd z (by decide)
          · exact hnc i (by omega) i2 z
        · exact join_turn (fl := 0) hx (vfr.rf f n a) rfl rfl hd0 h1 ha hnc hb' hcb hT k5' hh
      · by_cases k7' : g 143 a = 7
        · have hk : f (56 + 2 * a) 0 = 7 := k0.trans k7'
          have hb' : b ≤ a := hba (Or.inl (by rw [hk]; decide))
          obtain ⟨w, q, q1, q2, q3, q4, q5⟩ := (hs a ha).2.2.1 (Or.inr k7')
          have hP := (v1 (a + 1) (by omega) (by omega)).2.2
          have hP1 := (k5.k67 (Or.inr k7')).1
          have hw : pw g a 0 = nI w := by unfold pw pA; rw [k2, nI_clamp (by omega), Nat.add_zero, ← w1 _ (by omega)]; exact q1
          have hx : reF f n a 0 = (f, if nI (w - q) = 0 then 2 else 0) := by
            show waF f n a = _
            unfold waF
            rw [hk, q5]; rfl
          by_cases e : q = w
          · rw [e, Nat.sub_self, if_pos (show nI 0 = 0 from rfl)] at hx
            refine res.turn (by omega) h18 h19 ?_
            rw [gI_7 a3 ha (by omega) hb' k7' (by rw [hw, q4, e]) hnc]
            exact res_2 hx hd0 ha hnc (fun i i1 i2 => hcb.1 i (by omega) i2) hT (by omega)
          · rw [if_neg (nI_nz (by omega) (by omega))] at hx
            refine res_0 hx hd0 h1 ha hb' (fun i i1 i2 z => ?_) hcb hT (by omega)
            by_cases e2 : i = a
            · rw [e2] at z
              rcases z with ⟨z, _⟩ | ⟨_, _, z⟩
              · exact k5' z
              · rw [hw, q4] at z
                exact e ((nI_eq (by omega) (by omega)).mp z)
            · exact hnc i (by omega) i2 z
        · have hx : reF f n a 0 = (f, if f (56 + 2 * a) 8 = 0 then 0 else 2) := by
            show waF f n a = _
            unfold waF
            rw [k0, if_neg, if_neg k5', if_neg k7']
            rcases k5.kinds with k | k | k | k | k | k | k | k <;> rw [k] <;> decide
          have hca : ∀ i, a ≤ i → i < N → ¬ CA g i := CA_all (gfr.rf g a) k5' k7' hnc
          by_cases o : f (56 + 2 * a) 8 = 0
          · rw [if_pos o] at hx
            exact res_0 hx hd0 h1 ha (hba (Or.inr o)) hca hcb hT (by omega)
          · rw [if_neg o] at hx
            have e : b = a + 1 := by
              by_cases q : b ≤ a
              · exact absurd (hcb.1 a q ha) o
              · omega
            rw [e]
            exact res_2 hx hd0 ha hnc (fun i i1 i2 => hcb.1 i (by omega) i2) hT (by omega)
  · exact absurd z (by decide)
  · exact absurd z (by decide)
