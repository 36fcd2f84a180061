/-! Pure: the turns of the reference, and the class's joins and source. -/
theorem lsF_none {Q : Nat → Bool} {lo : Nat} : ∀ {k : Nat}, (∀ s, lo ≤ s → s < lo + k → ¬ Q s = true) → lsF Q lo k = -1
  | 0, _ => rfl
  | k + 1, h => by
    unfold lsF
    rw [if_neg (h (lo + k) (by omega) (by omega))]
    exact lsF_none fun s h1 h2 => h s h1 (by omega)
theorem lsF_top {Q : Nat → Bool} {lo a : Nat} (ha : lo ≤ a) (hp : Q a = true) : ∀ {k : Nat}, a < lo + k → (∀ s, a < s → s < lo + k → ¬ Q s = true) → lsF Q lo k = nI a
  | 0, h, _ => by omega
  | k + 1, h, hn => by
    unfold lsF
    by_cases e : lo + k = a
    · rw [e, if_pos hp]
    · rw [if_neg (hn (lo + k) (by omega) (by omega))]
      exact lsF_top ha hp (by omega) fun s h1 h2 => hn s h1 (by omega)
theorem lsF_below {Q : Nat → Bool} {lo a k : Nat} (h : ∀ s, a ≤ s → s < lo + k → ¬ Q s = true) : lsF Q lo k = -1 ∨ ∃ s, s < a ∧ lsF Q lo k = nI s := by
  rcases lsF_val Q lo k with z | ⟨s, h1, h2, h3, h4⟩
  · exact Or.inl z
  · refine Or.inr ⟨s, ?_, h4⟩
    by_cases q : a ≤ s
    · exact absurd h3 (h s q h2)
    · omega
theorem m1_lt {a : Nat} (h : a ≤ 1000) : (-1 : Int32) < nI a := by
  rw [Int32.lt_iff_toInt_lt, nI_toInt (by omega)]
  have : (-1 : Int32).toInt = -1 := by decide
  omega
theorem below_lt {x : Int32} {a : Nat} (ha : a ≤ 1000) (h : x = -1 ∨ ∃ s, s < a ∧ x = nI s) : x < nI a := by
  rcases h with h | ⟨s, h1, h2⟩
  · rw [h]; exact m1_lt ha
  · rw [h2, nI_ltI (by omega) (by omega)]; exact h1
theorem CA_w {g : mm_F} {s : Nat} (h : ¬ CA g s) : ¬ (decide (g 143 s = 5 ∧ ¬ g 149 s = 0)) = true := fun z => h (Or.inl (of_decide_eq_true z))
theorem CA_s {g : mm_F} {s : Nat} (h : ¬ CA g s) : ¬ (decide (0 < s ∧ g 143 s = 7 ∧ g 147 s = pw g s 0)) = true := fun z => h (Or.inr (of_decide_eq_true z))
/-- a join waits -/
theorem gI_5 {g : mm_F} {N R a b : Nat} (hN : N ≤ 39) (ha : a < N) (hb : b ≤ a) (hk : g 143 a = 5) (hh : ¬ g 149 a = 0) (hn : ∀ i, a < i → i < N → ¬ CA g i) : gI g N R b = (foF g N R a, b) := by
  have w : wtF g b N = nI a := lsF_top (k := N - b) hb (decide_eq_true ⟨hk, hh⟩) (by omega) fun s h1 h2 => CA_w (hn s h1 (by omega))
  have s : sfF g b N < nI a := below_lt (by omega) (lsF_below (k := N - b) fun s h1 h2 => by
    by_cases e : s = a
    · rw [e]
      intro z
      have := (of_decide_eq_true z).2.1
      rw [hk] at this
      exact absurd this (by decide)
    · exact CA_s (hn s (by omega) (by omega)))
  unfold gI
  rw [w, if_neg (by rw [Classical.not_not]; exact Int32.le_of_lt s), if_pos (nI_pos (by omega)), nI_clamp (by omega)]
/-- a limit is reached -/
theorem gI_7 {g : mm_F} {N R a b : Nat} (hN : N ≤ 39) (ha : a < N) (h0 : 0 < a) (hb : b ≤ a) (hk : g 143 a = 7) (hh : g 147 a = pw g a 0) (hn : ∀ i, a < i → i < N → ¬ CA g i) : gI g N R b = (g, a + 1) := by
  have w : sfF g b N = nI a := lsF_top (k := N - b) hb (decide_eq_true ⟨h0, hk, hh⟩) (by omega) fun s h1 h2 => CA_s (hn s h1 (by omega))
  have s : wtF g b N < nI a := below_lt (by omega) (lsF_below (k := N - b) fun s h1 h2 => by
    by_cases e : s = a
    · rw [e]
      intro z
      have := (of_decide_eq_true z).1
      rw [hk] at this
      exact absurd this (by decide)
    · exact CA_w (hn s (by omega) (by omega)))
  unfold gI
  rw [w, if_pos (Int32.not_le.mpr s), nI_clamp (by omega)]
/-- nobody waits -/
theorem gI_n {g : mm_F} {N R b : Nat} (hn : ∀ i, b ≤ i → i < N → ¬ CA g i) : gI g N R b = if b = 0 then ((bgF g N R).1, if (bgF g N R).2 = 0 then 1 else 0) else (csF g N b, b + 1) := by
  have w : sfF g b N = -1 := lsF_none (k := N - b) fun s h1 h2 => CA_s (hn s h1 (by omega))
  have s : wtF g b N = -1 := lsF_none (k := N - b) fun s h1 h2 => CA_w (hn s h1 (by omega))
  unfold gI
  rw [w, s, if_neg (by rw [Classical.not_not]; exact Int32.le_refl _), if_neg (by decide)]
theorem wkR_row {f g : mm_F} {n s t d x M cols wb : Nat} {e : Int32} {Q : List Nat} (h3 : f (56 + 2 * s) 3 = nI t) (h4 : f (56 + 2 * s) 4 = nI d) (h5 : f (56 + 2 * s) 5 = nI x) (hM : f (4 + 12 * t) 1 = nI M) (h0 : f (4 + 12 * t) 0 = nI cols) (h2 : f (56 + 2 * s) 2 = nI wb) (ht : t < 4) (hd : d < 4) (hc : cols ≤ 4) (hwb : wb ≤ 8) (hM2 : M ≤ 48) (hQ : TC g t d M Q) (hg : ∀ y, 2 ≤ y ∧ y < 52 → f y = g y) (hx : x < Q.length) (hle : tc g t d Q[x] ≤ f (56 + 2 * s) 6) :
    wkR f n s e = if f n 4 < f n 3 then (wkF f n s t cols wb Q[x], 1) else (f, 3) := by
  obtain ⟨q1, q2, q3, q4⟩ := hQ
  have hq : Q[x] < M := (q3 _).mp (List.getElem_mem hx)
  have e1 : to f t d x = nI Q[x] := by
    have := q2 x hx
    unfold to at this ⊢
    rw [hg _ (by omega)]; exact this
  have e2 : tc f t d Q[x] = tc g t d Q[x] := by unfold tc; rw [hg _ (by omega)]
  unfold wkR
  rw [h3, h4, h5, nI_clamp (by omega), nI_clamp (by omega), nI_clamp (by omega), hM, nI_clamp (by omega), h0, nI_clamp (by omega), h2, nI_clamp (by omega), e1, nI_clamp (by omega), e2, if_pos ⟨by omega, hle⟩]
theorem wkR_none {f g : mm_F} {n s t d x M : Nat} {e : Int32} {Q : List Nat} (h3 : f (56 + 2 * s) 3 = nI t) (h4 : f (56 + 2 * s) 4 = nI d) (h5 : f (56 + 2 * s) 5 = nI x) (hx1 : x ≤ M) (hM : f (4 + 12 * t) 1 = nI M) (ht : t < 4) (hd : d < 4) (hM2 : M ≤ 48) (hQ : TC g t d M Q) (hg : ∀ y, 2 ≤ y ∧ y < 52 → f y = g y) (hx : ∀ hx : x < Q.length, ¬ tc g t d Q[x] ≤ f (56 + 2 * s) 6) :
    wkR f n s e = (f, e) := by
  obtain ⟨q1, q2, q3, q4⟩ := hQ
  unfold wkR
  rw [h3, h4, h5, nI_clamp (by omega), nI_clamp (by omega), nI_clamp (by omega), hM, nI_clamp (by omega), if_neg]
  rintro ⟨z1, z2⟩
  have hx' : x < Q.length := by omega
  have hq : Q[x] < M := (q3 _).mp (List.getElem_mem hx')
  have e1 : to f t d x = nI Q[x] := by
    have := q2 x hx'
    unfold to at this ⊢
    rw [hg _ (by omega)]; exact this
  have e2 : tc f t d Q[x] = tc g t d Q[x] := by unfold tc; rw [hg _ (by omega)]
  rw [e1, nI_clamp (by omega), e2] at z2
  exact hx hx' z2
theorem wkF_fields {f : mm_F} {n s t cols wb q : Nat} (hn : 153 ≤ n) (hs : s < 39) : (wkF f n s t cols wb q) n 4 = f n 4 + 1 ∧ (wkF f n s t cols wb q) (56 + 2 * s) 5 = f (56 + 2 * s) 5 + 1 ∧ (∀ j, ¬ j = 5 → (wkF f n s t cols wb q) (56 + 2 * s) j = f (56 + 2 * s) j) ∧ ∀ j, (wkF f n s t cols wb q) (57 + 2 * s) j = f (57 + 2 * s) j := by
  unfold wkF
  refine ⟨?_, mm_up_eq _ _ _ _, fun j hj => ?_, fun j => ?_⟩
  · rw [mm_up_ne _ _ (by omega)]
    unfold cpR
    rw [if_neg (by omega)]
    unfold cpC
    rw [if_neg (by omega), mm_up_eq]
  · rw [mm_up_ne _ _ (by omega)]
    unfold cpR
    rw [if_neg (by omega)]
    unfold cpC
    rw [if_neg (by omega), mm_up_ne _ _ (by omega)]
  · rw [mm_up_ne _ _ (by omega)]
    unfold cpR
    rw [if_neg (by omega)]
    unfold cpC
    rw [if_neg (by omega), mm_up_ne _ _ (by omega)]
theorem viF_spent {g : mm_F} (h : g 136 17 = g 136 16) : (viF g).2 = 0 ∧ (viF g).1 136 18 = 1 := by
  unfold viF
  rw [if_pos h]
  exact ⟨rfl, by show (mm_up (mm_up g 136 18 1) 136 17 (g 136 17)) 136 18 = 1; rw [mm_up_ne _ _ (by omega), mm_up_eq]⟩
theorem viF_ok {g : mm_F} (h : ¬ g 136 17 = g 136 16) (h18 : g 136 18 = 0) : viF g = (mm_up g 136 17 (g 136 17 + 1), 1) := by
  unfold viF
  have e : mm_up g 136 18 0 = g := by rw [← h18]; exact mm_upf g 136 18
  rw [if_neg h, e]
/-- a spent reference stops at its next turn -/
theorem grM_spent {g z : mm_F} {N R b b' : Nat} (hb : b < N) (h18 : g 136 18 = 0) (h19 : g 136 19 = 0) (he : gI g N R b = (z, b')) (hz : z 136 18 = 1) : grM 2 g N R b = some z := by
  show (if N ≤ b ∨ ¬ g 136 18 = 0 ∨ ¬ g 136 19 = 0 then some g else grM 1 (gI g N R b).1 N R (gI g N R b).2) = _
  rw [if_neg (by rw [h18, h19]; simp; omega), he]
  show (if N ≤ b' ∨ ¬ z 136 18 = 0 ∨ ¬ z 136 19 = 0 then some z else _) = _
  rw [if_pos (Or.inr (Or.inl (by rw [hz]; decide)))]
/-- the class's walk of a join goes on, and the reference follows -/
theorem join_turn {n N m R W F t0 : Nat} {cl nn P V : Nat → Nat} {L : Nat → Nat → List Nat} {f0 f g : mm_F} {a b fl : Nat} {w : Int32} (he : reF f0 n a w = wkR f n a 0) (hv0 : vfr f0 f n a) (h04 : f n 4 = f0 n 4) (h08 : f (56 + 2 * a) 8 = f0 (56 + 2 * a) 8) (hd0 : dy n N m R W F cl nn P V t0 L f g) (h1 : 1 ≤ a) (ha : a < N) (hnc : ∀ i, a < i → i < N → ¬ CA g i) (hb : b ≤ a) (hcb : cb N f0 b) (hT : tv n N F f0 fl) (hk : g 143 a = 5) (hh : ¬ g 149 a = 0) : res n N m R W F cl nn P V t0 L f0 a w (2 * sgS n N F f0 fl + 4 * (N - b) + 2 + a) g b := by
  obtain ⟨⟨⟨a1, a2, a3, a4, a5, a6, a7⟩, ⟨b1, b2, b3⟩, w1, dg, e1, v1, _, s1⟩, hs, ⟨v, vv1, vv2, vv3⟩, ⟨h18, h19⟩, _⟩ := id hd0
  obtain ⟨k0, k1, k2, k3, k4, k5⟩ := s1 a h1 ha
  obtain ⟨t, d, c, x, c1, c2, c3, c4, c5, c6, c7, c8, c9, c10, c11, c12, c13⟩ := (hs a ha).2.1 hk
  obtain ⟨j1, j2, j3⟩ := c13 hh
  obtain ⟨t1, t2, t3, t4, t5, t6, t7, t8⟩ := e1 t c1
  have hP := (v1 (a + 1) (by omega) (by omega)).2.2
  have hP3 := (k5.k5 hk).1
  have hV1 := (v1 (a + 1) (by omega) (by omega)).1
  have hV := (v1 a h1 (by omega)).1
  have eq := nI_clamp (n := P a + 1) (by omega)
  have pw0 : pw g a 0 = nI t := by unfold pw pA; rw [k2, eq, Nat.add_zero, ← w1 _ (by omega)]; exact c4
  have pw1 : pw g a 1 = nI d := by unfold pw pA; rw [k2, eq, ← w1 _ (by omega)]; exact c5
  have pw2 : pw g a 2 = nI c := by unfold pw pA; rw [k2, eq, ← w1 _ (by omega)]; exact c6
  have hnt : ntX g a R = ntB g a d (nI t) (g 150 (8 * a + c)) R := by
    unfold ntX
    rw [pw0, pw1, pw2, nI_clamp (by omega), nI_clamp (by omega)]
  have k0' : f0 (56 + 2 * a) 0 = 5 := by rw [← hv0 _ 0 (by omega) (by omega) (by omega) (by omega), k0]; exact hk
  have hgi := gI_5 (R := R) a3 ha hb hk hh hnc
  have hr0 : rmF n F f = rmF n F f0 := by unfold rmF; rw [h04]
  have hTa : ∀ (f1 : mm_F) (i T : Nat), i + 1 = a → f0 (56 + 2 * a) 0 = 10 → f0 (56 + 2 * a) 7 = nI T → ∃ T', f1 (56 + 2 * a) 7 = nI T' ∧ T' ≤ T + if fl = a then 1 else 0 := fun _ _ _ _ z => by
    rw [k0'] at z; exact absurd z (by decide)
  rcases join_next t7 (t8 d c2) c2 t5 a5 j1 with ⟨hx, r, r1, r2, r3, r4, r5⟩ | ⟨hx, r3⟩
  · have hwk := wkR_row (n := n) (s := a) (e := 0) c8 c9 c10 t4 t1 k3 (by omega) (by omega) t3 hV t5 (t8 d c2) dg hx (by rw [r1, j2]; exact Int32.le_refl _)
    have hnf : ntF g a R = (mm_up (mm_up g 148 a (g 141 (4 * r))) 147 a 1, nI r) := by
      unfold ntF
      rw [hnt, r3, if_neg (nI_pos (by omega)), nI_clamp (by omega)]
    generalize hG : mm_up (mm_up g 148 a (g 141 (4 * r))) 147 a 1 = G at hnf
    have G36 : ∀ j, G 136 j = g 136 j := fun j => by rw [← hG, mm_up_ne _ _ (by omega), mm_up_ne _ _ (by omega)]
    have gG : gfr g G a := by rw [← hG]; exact (gfr.up (by omega)).tr (gfr.up (by omega))
    by_cases q : v < F
    · rw [vv2, b1, if_pos ((nI_ltI (by omega) (by omega)).mpr q)] at hwk
      have hvi := viF_ok (g := G) (by rw [G36, G36, vv3, b2]; exact fun z => by have := (nI_eq (by omega) (by omega)).mp z; omega) (by rw [G36]; exact h18)
      rw [G36 17, vv3, nI_1] at hvi
      generalize hG2 : mm_up G 136 17 (nI (v + 1)) = G2 at hvi
      have gG2 : gfr g G2 a := by rw [← hG2]; exact gG.tr (gfr.up (by omega))
      have hfo : foF g N R a = puF (N - (a + 1)) (foG G2 a r) (a + 1) := by
        unfold foF
        rw [hnf, if_neg (nI_pos (by omega))]
        dsimp only
        rw [hvi, if_neg (by show ¬ (1 : Int32) = 0; decide), nI_clamp (by omega)]
      have e141 : ∀ j, G2 141 j = g 141 j := fun j => gG2 141 j (by omega) (by omega) (by omega) (by omega)
      have e5 : G2 145 a = nI (V a) := by rw [gG2 145 a (by omega) (by omega) (by omega) (by omega)]; exact k4
      have epw : pw G2 a 0 = nI t := by
        unfold pw pA at pw0 ⊢
        rw [gG2 144 a (by omega) (by omega) (by omega) (by omega), gG2 142 _ (by omega) (by omega) (by omega) (by omega)]; exact pw0
      have e7 : G2 137 t = nI (cl t) := by rw [gG2 137 t (by omega) (by omega) (by omega) (by omega)]; exact t6
      have e50 : ∀ j, G2 150 j = g 150 j := fun j => by rw [← hG2, mm_up_ne _ _ (by omega), ← hG, mm_up_ne _ _ (by omega), mm_up_ne _ _ (by omega)]
      have etc : ∀ c, c < 4 → tc f t c (L t d)[x] = tc g t c (L t d)[x] := fun c hc => by unfold tc; rw [dg _ (by omega)]
      obtain ⟨z1, z2⟩ := join_row (f := f) (g := G2) (n := n) (s := a) (t := t) (cols := cl t) (v := V a) (q := (L t d)[x]) (r := r) a1 (by omega) (by omega) t3 hV e5 epw e7 (fun j hj => by rw [e50]; exact j3 j hj) (fun c hc => by rw [e141, etc c (by omega)]; exact r5 c hc)
      obtain ⟨m1, m2, m3, m4⟩ := wkF_fields (f := f) (n := n) (s := a) (t := t) (cols := cl t) (wb := V a) (q := (L t d)[x]) a1 (by omega)
      have vf : vfr f (wkF f n a t (cl t) (V a) (L t d)[x]) n a := wkF_vfr
      have foG_r : ∀ y j, ¬ y = 146 → ¬ (y = 136 ∧ j = 20) → (foG G2 a r) y j = G2 y j := fun y j q1 q2 => by
        unfold foG loF
        rw [mm_up_ne _ _ q2]
        unfold loL
        rw [if_neg (fun z => q1 z.1)]
        unfold foL
        rw [if_neg (fun z => q1 z.1)]
      have gf : gfr g (foG G2 a r) a := gG2.tr fun y j q1 q2 _ _ => foG_r y j q1 (by omega)
      generalize hf1 : wkF f n a t (cl t) (V a) (L t d)[x] = f1 at hwk z1 m1 m2 m3 m4 vf
      generalize hg1 : foG G2 a r = g1 at hfo z1 z2 gf foG_r
      have g147 : g1 147 a = 1 := by rw [foG_r _ _ (by omega) (by omega), ← hG2, mm_up_ne _ _ (by omega), ← hG, mm_up_eq]
      have g148 : g1 148 a = g 141 (4 * r) := by rw [foG_r _ _ (by omega) (by omega), ← hG2, mm_up_ne _ _ (by omega), ← hG, mm_up_ne _ _ (by omega), mm_up_eq]
      have g149 : g1 149 a = g 149 a := by rw [foG_r _ _ (by omega) (by omega), ← hG2, mm_up_ne _ _ (by omega), ← hG, mm_up_ne _ _ (by omega), mm_up_ne _ _ (by omega)]
      have g150 : ∀ j, g1 150 j = g 150 j := fun j => by rw [foG_r _ _ (by omega) (by omega), e50]
      have gT : ∀ y, y < 52 → g1 y = g y := gf.dgr.1
      have etg : ∀ c, c < 4 → tc g1 t c (L t d)[x] = tc g t c (L t d)[x] := fun c hc => by unfold tc; rw [gT _ (by omega)]
      have d2 : dy n N m R W F cl nn P V t0 L f1 g1 := by
        refine hd0.move ha vf gf ⟨fun z => by omega, fun _ => ⟨t, d, c, x + 1, c1, c2, c3, ?_, ?_, ?_, c7, by rw [m3 3 (by omega)]; exact c8, by rw [m3 4 (by omega)]; exact c9, by rw [m2, c10, nI_1], ?_, fun z => ?_, fun _ => ⟨?_, ?_, fun j hj => ?_⟩⟩, ?_, ?_, ?_⟩ ⟨v + 1, by omega, by rw [m1, vv2, nI_1], ?_⟩
        · rw [vf 54 _ (by omega) (by omega) (by omega) (by omega)]; exact c4
        · rw [vf 54 _ (by omega) (by omega) (by omega) (by omega)]; exact c5
        · rw [vf 54 _ (by omega) (by omega) (by omega) (by omega)]; exact c6
        · have := (t8 d c2).1; omega
        · rw [g149] at z; exact absurd z hh
        · refine jX_next ((t8 d c2).congr (gT _ (by omega)) (gT _ (by omega)) (gT _ (by omega))) hx ?_ (by rw [g147]; decide) ?_
          · rw [etg d (by omega), g150]; exact r1
          · rw [g148, etg 0 (by omega)]; exact r5 0 (by omega)
        · rw [m3 6 (by omega), g150]; exact j2
        · rw [m4, g150]; exact j3 j hj
        · rw [gf 143 a (by omega) (by omega) (by omega) (by omega), hk]; exact fun z => absurd z (by decide)
        · rw [gf 143 a (by omega) (by omega) (by omega) (by omega), hk]; exact fun z => absurd z (by decide)
        · rw [gf 143 a (by omega) (by omega) (by omega) (by omega), hk]; exact fun z => absurd z (by decide)
        · rw [foG_r _ _ (by omega) (by omega), ← hG2, mm_up_eq]
      have vf0 : vfr f0 f1 n a := hv0.tr vf
      have er : rmF n F f1 + 1 = rmF n F f0 := by
        unfold rmF
        rw [m1, vv2, nI_1, nI_clamp (by omega), ← h04, vv2, nI_clamp (by omega)]; omega
      refine res.turn (by omega) h18 h19 ?_
      rw [hgi]
      show res n N m R W F cl nn P V t0 L f0 a w _ (foF g N R a) b
      rw [hfo]
      refine res_1 (he.trans hwk) d2 ha (by omega) (fun i i1 i2 z => hnc i i1 i2 (CA_fr gf (by omega) z)) (cb_fr vf0 a1 a3 ha (by rw [m3 8 (by omega)]; exact h08) hcb) (by rw [c7]; exact z1) (by rw [c7]; exact z2) (fun fl' hfl => ?_)
      have e50' : f1 (56 + 2 * a) 0 = 5 := by rw [m3 0 (by omega), k0]; exact hk
      obtain ⟨y1, y2⟩ := mv_give vf0 a1 a3 ha (by omega) hfl (by rw [gmS_5 ha h1 e50', gmS_5 ha h1 k0']; omega) hT (hTa f1)
      exact ⟨y1, by omega⟩
    · rw [vv2, b1, if_neg (fun z => q ((nI_ltI (by omega) (by omega)).mp z))] at hwk
      have hvF : v = F := by omega
      obtain ⟨y1, y2⟩ := viF_spent (g := G) (by rw [G36, G36, vv3, b2, hvF])
      have hfo : foF g N R a = (viF G).1 := by
        unfold foF
        rw [hnf, if_neg (nI_pos (by omega))]
        dsimp only
        rw [if_pos y1]
      rw [hfo] at hgi
      exact res_3 (he.trans hwk) (grM_spent (by omega) h18 h19 hgi y2) y2
  · have hwk := wkR_none (n := n) (s := a) (e := 0) c8 c9 c10 c11 t4 (by omega) (by omega) t5 (t8 d c2) dg (fun h => by rw [j2]; exact hx h)
    have hnf : ntF g a R = (g, -1) := by
      unfold ntF
      rw [hnt, r3, if_pos (by decide)]
    have hfo : foF g N R a = mm_up g 149 a 0 := by
      unfold foF
      rw [hnf, if_pos (by show (-1 : Int32) < 0; decide)]
    have gf : gfr g (mm_up g 149 a 0) a := gfr.up (by omega)
    have e143 : (mm_up g 149 a 0) 143 a = 5 := by rw [mm_up_ne _ _ (by omega)]; exact hk
    have d2 : dy n N m R W F cl nn P V t0 L f (mm_up g 149 a 0) := by
      refine hd0.move ha (vfr.rf f n a) gf ⟨fun z => by omega, fun _ => ⟨t, d, c, x, c1, c2, c3, c4, c5, c6, c7, c8, c9, c10, c11, fun _ h => ?_, fun z => absurd (mm_up_eq _ _ _ _) z⟩, ?_, ?_, ?_⟩ ⟨v, vv1, vv2, by rw [mm_up_ne _ _ (by omega)]; exact vv3⟩
      · rw [j2]
        have e : tc (mm_up g 149 a 0) t d (L t d)[x] = tc g t d (L t d)[x] := by unfold tc; rw [mm_up_ne _ _ (by omega)]
        rw [e]; exact hx h
      · rw [e143]; exact fun z => absurd z (by decide)
      · rw [e143]; exact fun z => absurd z (by decide)
      · rw [e143]; exact fun z => absurd z (by decide)
    refine res.turn (by omega) h18 h19 ?_
    rw [hgi]
    show res n N m R W F cl nn P V t0 L f0 a w _ (foF g N R a) b
    rw [hfo]
    have e50' : f (56 + 2 * a) 0 = 5 := by rw [k0]; exact hk
    obtain ⟨y1, y2⟩ := mv_rest (F := F) hv0 a1 a3 ha (by omega) (by rw [gmS_5 ha h1 e50', gmS_5 ha h1 k0']; omega) hT (hTa f)
    refine res_0 (he.trans hwk) d2 h1 ha hb (fun i i1 i2 z => ?_) (cb_fr hv0 a1 a3 ha h08 hcb) y1 (by omega)
    by_cases e : i = a
    · rw [e] at z
      rcases z with ⟨_, z⟩ | ⟨_, z, _⟩
      · exact z (mm_up_eq _ _ _ _)
      · rw [e143] at z; exact absurd z (by decide)
    · exact hnc i (by omega) i2 (CA_fr gf e z)
