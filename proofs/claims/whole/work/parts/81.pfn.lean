/-! Pure: what the class's loop leans on, and what a run leaves as it was. -/
theorem wkR_ans (f : mm_F) (n s : Nat) (e : Int32) : (wkR f n s e).2 = 1 ∨ (wkR f n s e).2 = 3 ∨ (wkR f n s e).2 = e := by
  unfold wkR
  split
  · split
    · exact Or.inl rfl
    · exact Or.inr (Or.inl rfl)
  · exact Or.inr (Or.inr rfl)
theorem reF_ans (f : mm_F) (n s : Nat) (w : Int32) : (reF f n s w).2 = 0 ∨ (reF f n s w).2 = 1 ∨ (reF f n s w).2 = 2 ∨ (reF f n s w).2 = 3 := by
  have z : ∀ e : Int32, e = 0 ∨ e = 2 → ∀ h, (wkR h n s e).2 = 0 ∨ (wkR h n s e).2 = 1 ∨ (wkR h n s e).2 = 2 ∨ (wkR h n s e).2 = 3 := fun e he h => by
    rcases wkR_ans h n s e with y | y | y
    · exact Or.inr (Or.inl y)
    · exact Or.inr (Or.inr (Or.inr y))
    · rcases he with he | he
      · exact Or.inl (y.trans he)
      · exact Or.inr (Or.inr (Or.inl (y.trans he)))
  unfold reF
  split
  · unfold waF
    split
    · exact z 2 (Or.inr rfl) _
    split
    · exact z 0 (Or.inl rfl) _
    split
    · dsimp only
      split
      · exact Or.inr (Or.inr (Or.inl rfl))
      · exact Or.inl rfl
    · dsimp only
      split
      · exact Or.inl rfl
      · exact Or.inr (Or.inr (Or.inl rfl))
  split
  · unfold wvF
    split
    · dsimp only
      rcases bI_01 (hlF (clF f n s 1) (f 54 ((f (56 + 2 * s) 1).toNatClampNeg + 2)) (f 54 ((f (56 + 2 * s) 1).toNatClampNeg + 3))) with y | y
      · exact Or.inl y
      · exact Or.inr (Or.inl y)
    split
    · exact Or.inr (Or.inl rfl)
    split
    · exact z 0 (Or.inl rfl) _
    split
    · unfold sgF
      split
      · exact Or.inr (Or.inl rfl)
      · exact Or.inl rfl
    split
    · exact Or.inr (Or.inl rfl)
    split
    · exact Or.inl rfl
    split
    · exact Or.inl rfl
    split
    · unfold agF
      split
      · exact Or.inl rfl
      · exact Or.inr (Or.inl rfl)
    · exact Or.inr (Or.inr (Or.inl rfl))
  · unfold weF
    split
    · exact Or.inr (Or.inl rfl)
    split
    · split
      · exact Or.inr (Or.inr (Or.inl rfl))
      · exact Or.inr (Or.inl rfl)
    · exact Or.inr (Or.inr (Or.inl rfl))
theorem stt_ok {n N m R W F t0 : Nat} {cl nn P V : Nat → Nat} {L : Nat → Nat → List Nat} {f g : mm_F} {a b : Nat} {w : Int32} (h : stt n N m R W F cl nn P V t0 L f g a w b) : sOK f a := by
  obtain ⟨⟨⟨⟨a1, a2, a3, a4, a5, a6, a7⟩, ⟨b1, b2, b3⟩, w1, dg, e1, v1, ⟨s1, s2, s3, s4, s5, s6, s7⟩, sk⟩, hs, _⟩, ha, _⟩ := h
  have up : ∀ t c, t < m → c < cl t → tb_up f t c (nn t) := fun t c ht hc => by
    obtain ⟨t1, t2, t3, t4, t5, t6, t7, t8⟩ := e1 t ht
    exact tb_up_congr (dg _ (by omega)) (dg _ (by omega)) ((t8 c hc).up t5)
  by_cases z : a = 0
  · subst z
    obtain ⟨c, x, low, c1, c2, c3, c4, c5, _⟩ := (hs 0 ha).1 rfl
    obtain ⟨t1, t2, t3, t4, t5, t6, t7, t8⟩ := e1 t0 s1
    have no : ∀ j : Int32, j ≠ 1 → j ≠ 2 → ¬ f (56 + 2 * 0) 0 = j := fun j j1 j2 e => by
      have e := s2.symm.trans e
      rcases s3 with y | y
      · exact j1 (e.symm.trans y)
      · exact j2 (e.symm.trans y)
    refine ⟨0, 0, s4, by omega, s5, by omega, fun _ => ⟨t0, c, x, nn t0, cl t0, by omega, by omega, c2, c3, c4, c5, t4, t5, t1, t3, s5, by omega, up t0 c s1 c1⟩, fun e => absurd e (no 3 (by decide) (by decide)), fun e => absurd e (no 4 (by decide) (by decide)), fun e => absurd e (no 5 (by decide) (by decide)), ?_⟩
    rintro (e | e)
    · exact absurd e (no 9 (by decide) (by decide))
    · exact absurd e (no 10 (by decide) (by decide))
  · obtain ⟨k0, k1, k2, k3, k4, k5⟩ := sk a (by omega) ha
    have hP := (v1 (a + 1) (by omega) (by omega)).2.2
    have hV1 := (v1 (a + 1) (by omega) (by omega)).1
    have hV := (v1 a (by omega) (by omega)).1
    have hnx := k5.next
    refine ⟨P a, V a, k1, by omega, k3, hV, fun e => ?_, fun e => ?_, fun e => ?_, fun e => ?_, fun e => ?_⟩
    · rw [k0] at e
      have e5 : g 143 a = 5 := by
        rcases e with e | e | e
        · rcases k5.kinds with k | k | k | k | k | k | k | k <;> rw [k] at e <;> exact absurd e (by decide)
        · rcases k5.kinds with k | k | k | k | k | k | k | k <;> rw [k] at e <;> exact absurd e (by decide)
        · exact e
      obtain ⟨t, d, c, x, c1, c2, c3, c4, c5, c6, c7, c8, c9, c10, c11, _⟩ := (hs a ha).2.1 e5
      obtain ⟨t1, t2, t3, t4, t5, t6, t7, t8⟩ := e1 t c1
      exact ⟨t, d, x, nn t, cl t, by omega, by omega, c8, c9, c10, c11, t4, t5, t1, t3, k3, by omega, up t d c1 c2⟩
    · rw [k0] at e
      obtain ⟨p1, p2, ⟨c, c1, c2⟩, p3⟩ := k5.k3 e
      exact ⟨by omega, c, by omega, c2⟩
    · rw [k0] at e
      obtain ⟨k, n1, n2, n3, n4, n5, n6⟩ := k5.k4 e
      refine ⟨k, n2, by omega, n3, fun i hi => ?_⟩
      obtain ⟨c, c1, c2⟩ := n6 i hi
      exact ⟨c, by omega, c2⟩
    · rw [k0] at e
      obtain ⟨p1, t, d, c, c1, c2, c3, c4, c5, c6, _⟩ := k5.k5 e
      exact ⟨by omega, c, by omega, c6⟩
    · rw [k0] at e
      rcases e with e | e
      · obtain ⟨p1, p2, c, c1, c2⟩ := k5.k9 e
        exact ⟨by omega, c, by omega, c2⟩
      · obtain ⟨p1, p2, c, c1, c2⟩ := k5.k10 e
        exact ⟨by omega, c, by omega, c2⟩
/-- what the class's loop wants of a state, and that it stays -/
theorem stt_keeps {n N m R W F t0 : Nat} {cl nn P V : Nat → Nat} {L : Nat → Nat → List Nat} {f : mm_F} {a : Nat} {w : Int32} (h : ∃ g b, stt n N m R W F cl nn P V t0 L f g a w b) : a < N ∧ sOK f a ∧ (∃ u, u ≤ 64 ∧ (reF f n a w).1 134 1 = nI u) ∧ (∃ k, k ≤ 8 ∧ (reF f n a w).1 53 3 = nI k) ∧ ((reF f n a w).2 = 0 → 0 < a) ∧ ((reF f n a w).2 = 0 ∨ (reF f n a w).2 = 1 ∨ (reF f n a w).2 = 2 ∨ (reF f n a w).2 = 3) ∧
      ∀ (g' : mm_F) (a' : Nat) (nw' : Int32), nxM f n (N - 1) a w = (none, g', a', nw') → ∃ g b, stt n N m R W F cl nn P V t0 L g' g a' nw' b := by
  obtain ⟨g, b, h⟩ := h
  obtain ⟨⟨⟨⟨a1, a2, a3, a4, a5, a6, a7⟩, ⟨b1, b2, b3⟩, w1, dg, e1, v1, ⟨s1, s2, s3, s4, s5, s6, s7⟩, sk⟩, hs, _, _, u, c, ⟨o1, o2, o3, o4⟩, _⟩, ha, _, hw⟩ := id h
  have vf : vfr f (reF f n a w).1 n a := reF_vfr
  refine ⟨ha, stt_ok h, ⟨u, o3, ?_⟩, ⟨V N, (v1 N a2 (Nat.le_refl _)).1, ?_⟩, fun e => ?_, reF_ans f n a w, fun g' a' nw' e => ?_⟩
  · rw [vf 134 1 (by omega) (by omega) (by omega) (by omega)]; exact o1
  · rw [vf 53 3 (by omega) (by omega) (by omega) (by omega)]; exact b3
  · by_cases z : a = 0
    · subst z
      have w0 : w = 0 := by
        rcases hw with ⟨y, _⟩ | ⟨_, y, _⟩ | ⟨_, y, _⟩
        · exact y
        · omega
        · omega
      subst w0
      have hx : reF f n 0 0 = wkR f n 0 2 := by
        show waF f n 0 = _
        unfold waF
        rw [if_pos]
        show f 56 0 = 1 ∨ f 56 0 = 2
        rw [s2]; exact s3
      rw [hx] at e
      rcases wkR_ans f n 0 2 with y | y | y <;> rw [y] at e <;> exact absurd e (by decide)
    · omega
  · rcases any_step h with ⟨r, f1, a1, w1, k, z, h1, h2, h3⟩ | ⟨f1, a1, w1, g1, b1, h1, h2, h3, h4⟩
    · rw [h1] at e
      exact absurd (congrArg Prod.fst e) (by simp)
    · rw [h1] at e
      simp only [Prod.mk.injEq, true_and] at e
      obtain ⟨e1, e2, e3⟩ := e
      subst e1 e2 e3
      exact ⟨g1, b1, h2⟩
/-- a run of the class leaves all but its steps, its output and itself -/
def ufr (f g : mm_F) (n : Nat) : Prop := ∀ x j, (x < 56 ∨ (136 ≤ x ∧ ¬ x = n ∧ ¬ x = n + 1)) ∨ x = n ∧ j = 3 → g x j = f x j
theorem ufr.tr {f g h : mm_F} {n : Nat} (h1 : ufr f g n) (h2 : ufr g h n) : ufr f h n := fun x j q => (h2 x j q).trans (h1 x j q)
theorem nxM_fr {f : mm_F} {n last a : Nat} {w : Int32} (hn : 153 ≤ n) (ha : a < 39) : ufr f (nxM f n last a w).2.1 n := by
  have vf : ufr f (reF f n a w).1 n := fun x j q => reF_vfr x j (by omega) (by omega) (by omega) (by omega)
  unfold nxM
  split
  · exact vf
  split
  · exact vf
  split
  · exact vf
  split
  · exact vf
  split
  · refine vf.tr fun x j q => ?_
    dsimp only
    rw [mm_up_ne _ _ (by omega), mm_up_ne _ _ (by omega)]
    unfold ocp
    rw [if_neg (by omega)]
  · exact vf
theorem nxM_at {f : mm_F} {n last a : Nat} {w : Int32} (ha : a ≤ last) : (nxM f n last a w).2.2.1 ≤ last := by
  unfold nxM
  split
  · exact ha
  split
  · show a - 1 ≤ last; omega
  split
  · show a + 1 ≤ last; omega
  split
  · exact ha
  split
  · exact ha
  · exact ha
theorem ruM_fr : ∀ (K : Nat) {f g : mm_F} {n last a : Nat} {w r : Int32}, 153 ≤ n → last < 39 → a ≤ last → ruM K f n last a w = some (r, g) → ufr f g n
  | 0, f, g, n, last, a, w, r, _, _, _, h => by unfold ruM at h; exact absurd h (by simp)
  | K + 1, f, g, n, last, a, w, r, hn, hl, ha, h => by
    have f1 := nxM_fr (f := f) (n := n) (last := last) (a := a) (w := w) hn (by omega)
    have a1 := nxM_at (f := f) (n := n) (last := last) (a := a) (w := w) ha
    unfold ruM at h
    generalize nxM f n last a w = q at h f1 a1
    obtain ⟨q1, q2, q3, q4⟩ := q
    cases q1 with
    | some r1 =>
      simp only [Option.some.injEq, Prod.mk.injEq] at h
      obtain ⟨h1, h2⟩ := h
      subst h2
      exact f1
    | none =>
      exact f1.tr (ruM_fr K hn hl a1 h)
theorem grM_fr : ∀ (K : Nat) {f g : mm_F} {N R b : Nat}, grM K f N R b = some g → dfr f g
  | 0, f, g, N, R, b, h => by unfold grM at h; exact absurd h (by simp)
  | K + 1, f, g, N, R, b, h => by
    unfold grM at h
    split at h
    · simp only [Option.some.injEq] at h
      subst h
      exact fun _ _ _ _ => rfl
    · exact (gI_fr f N R b).tr (grM_fr K h)
theorem grM_RD : ∀ (K : Nat) {f g : mm_F} {N m R b : Nat} {cl : Nat → Nat}, RS f N m R cl → ¬ f 143 0 = 5 → RD f → grM K f N R b = some g → RD g
  | 0, f, g, N, m, R, b, cl, _, _, _, h => by unfold grM at h; exact absurd h (by simp)
  | K + 1, f, g, N, m, R, b, cl, hr, h0, hd, h => by
    unfold grM at h
    split at h
    · simp only [Option.some.injEq] at h
      subst h
      exact hd
    · rename_i q
      have fr := gI_fr f N R b
      exact grM_RD K (hr.of fr) (by rw [fr 143 0 (by omega) (by omega)]; exact h0) (gI_RD hr h0 hd (by omega)) h
