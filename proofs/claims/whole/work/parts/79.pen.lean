/-! Pure: a step hears that nothing comes any more; the whole run alike. -/
theorem csG_gfr (g : mm_F) (a : Nat) : gfr g (csG g a) a := ((gfr.up (by omega)).tr (gfr.up (by omega))).tr (gfr.up (by omega))
theorem csG_17 (g : mm_F) (a : Nat) : (csG g a) 136 17 = g 136 17 := by
  unfold csG
  rw [mm_up_ne _ _ (by omega), mm_up_ne _ _ (by omega), mm_up_ne _ _ (by omega)]
theorem csG_147 (g : mm_F) (a x j : Nat) (hx : 137 ≤ x) (h6 : ¬ x = 146) : (csG g a) x j = g x j := by
  unfold csG
  rw [mm_up_ne _ _ (by omega), mm_up_ne _ _ (by omega), mm_up_ne _ _ (by omega)]
theorem end_step {n N m R W F t0 : Nat} {cl nn P V : Nat → Nat} {L : Nat → Nat → List Nat} {f g : mm_F} {a b : Nat} (h : stt n N m R W F cl nn P V t0 L f g a 2 b) : res n N m R W F cl nn P V t0 L f a 2 (ms n N F f a 2 b) (hd N g a 2) b := by
  obtain ⟨hd0, ha, hnc, h⟩ := h
  rcases h with ⟨z, _⟩ | ⟨z, _⟩ | ⟨_, h1, hb, ho, hT, hca⟩
  · exact absurd z (by decide)
  · exact absurd z (by decide)
  · subst hb
    show res n N m R W F cl nn P V t0 L f b 2 (2 * sgS n N F f 0 + 4 * (N - b) + 0 + b) g b
    obtain ⟨⟨⟨a1, a2, a3, a4, a5, a6, a7⟩, ⟨b1, b2, b3⟩, w1, dg, e1, v1, _, sk⟩, hs, ⟨v, vv1, vv2, vv3⟩, ⟨h18, h19⟩, _⟩ := id hd0
    obtain ⟨k0, k1, k2, k3, k4, k5⟩ := sk b h1 ha
    have o8 := ho b (Nat.le_refl _) ha
    have hca' : ∀ i, b ≤ i → i < N → ¬ CA g i := fun i i1 i2 => by
      by_cases e : i = b
      · rw [e]; exact hca
      · exact hnc i (by omega) i2
    refine res.turn ha h18 h19 ?_
    rw [gI_n hca', if_neg (by omega)]
    show res n N m R W F cl nn P V t0 L f b 2 _ (csF g N b) (b + 1)
    have hx : reF f n b 2 = weF f n b := rfl
    have vf8 : vfr f (mm_up f (56 + 2 * b) 8 1) n b := vfr.up (by omega)
    by_cases k89 : g 143 b = 8 ∨ g 143 b = 9
    · have k89' : f (56 + 2 * b) 0 = 8 ∨ f (56 + 2 * b) 0 = 9 := by rw [k0]; exact k89
      have n10 : ¬ g 143 b = 10 := fun e => by rcases k89 with k | k <;> rw [k] at e <;> exact absurd e (by decide)
      have hy : csF g N b = puF (N - (b + 1)) (csG g b) (b + 1) := by
        unfold csF
        rw [if_pos]
        unfold csT
        exact decide_eq_true (by rcases k89 with k | k <;> simp [k])
      rw [hy]
      have hx2 : weF f n b = (mm_up (mm_up f (56 + 2 * b) 8 1) (n + 1) 0 (f (56 + 2 * b) 7), 1) := by
        unfold weF
        rw [if_pos k89']
      have vf : vfr f (mm_up (mm_up f (56 + 2 * b) 8 1) (n + 1) 0 (f (56 + 2 * b) 7)) n b := vf8.tr (vfr.up (by omega))
      have fr : ∀ y j, ¬ (y = 56 + 2 * b ∧ j = 8) → ¬ y = n + 1 → (mm_up (mm_up f (56 + 2 * b) 8 1) (n + 1) 0 (f (56 + 2 * b) 7)) y j = f y j := fun y j q1 q2 => by
        rw [mm_up_ne _ _ (by omega), mm_up_ne _ _ (by omega)]
      have r0 : (mm_up (mm_up f (56 + 2 * b) 8 1) (n + 1) 0 (f (56 + 2 * b) 7)) (n + 1) 0 = f (56 + 2 * b) 7 := mm_up_eq _ _ _ _
      have f8 : (mm_up (mm_up f (56 + 2 * b) 8 1) (n + 1) 0 (f (56 + 2 * b) 7)) (56 + 2 * b) 8 = 1 := by rw [mm_up_ne _ _ (by omega), mm_up_eq]
      generalize mm_up (mm_up f (56 + 2 * b) 8 1) (n + 1) 0 (f (56 + 2 * b) 7) = f1 at hx2 vf fr r0 f8
      have gf := csG_gfr g b
      have e143 : (csG g b) 143 b = g 143 b := csG_147 g b 143 b (by omega) (by omega)
      have hV : V (b + 1) = 1 := by
        rcases k89 with k | k
        · exact (k5.k8 k).2
        · exact (k5.k9 k).2.1
      have tl := (hs b ha).2.2.2.1 k89
      have no : ∀ k : Int32, k ≠ 8 → k ≠ 9 → ¬ (csG g b) 143 b = k := fun k j8 j9 e => by
        rw [e143] at e
        rcases k89 with y | y
        · exact j8 (e.symm.trans y)
        · exact j9 (e.symm.trans y)
      have d2 : dy n N m R W F cl nn P V t0 L f1 (csG g b) := by
        refine hd0.move ha vf gf ⟨fun z => by omega, fun z => absurd z (no 5 (by decide) (by decide)), ?_, fun _ => ?_, fun z => absurd z (no 10 (by decide) (by decide))⟩ ⟨v, vv1, by rw [fr _ _ (by omega) (by omega)]; exact vv2, by rw [csG_17]; exact vv3⟩
        · rintro (z | z)
          · exact absurd z (no 6 (by decide) (by decide))
          · exact absurd z (no 7 (by decide) (by decide))
        · rw [fr _ _ (by omega) (by omega), csG_147 g b _ _ (by omega) (by omega)]; exact tl
      have er : rmF n F f1 = rmF n F f := by unfold rmF; rw [fr _ _ (by omega) (by omega)]
      refine res_1 (hx.trans hx2) d2 ha (Nat.le_refl _) (fun i i1 i2 z => hnc i i1 i2 (CA_fr gf (by omega) z)) ⟨fun i i1 i2 => ?_, fun _ => ⟨by omega, by omega, ?_, ?_⟩⟩ (fun j hj => ?_) ?_ (fun fl hfl => ?_)
      · rw [fr _ _ (by omega) (by omega)]; exact ho i (by omega) i2
      · rw [Nat.add_sub_cancel, f8]; decide
      · rw [Nat.add_sub_cancel, fr _ _ (by omega) (by omega)]
        rcases k89' with k | k
        · exact Or.inl k
        · exact Or.inr (Or.inl k)
      · rw [hV] at hj
        have : j = 0 := by omega
        subst this
        rw [r0, tl]
        unfold csG
        rw [mm_up_ne _ _ (by omega), mm_up_ne _ _ (by omega), mm_up_eq, if_neg n10]
      · unfold csG
        rw [mm_up_eq, if_neg n10, hV]; rfl
      · obtain ⟨y1, y2⟩ := mv_give (F := F) (fl := 0) vf a1 a3 ha (by omega) hfl (by rw [gmS_8 ha h1 (by rw [fr _ _ (by omega) (by omega)]; exact k89'), gmS_8 ha h1 k89', f8, o8, if_neg (by decide), if_pos rfl]; exact Nat.le_refl _) hT (fun i T _ z => by rw [k0] at z; exact absurd z n10)
        exact ⟨y1, by omega⟩
    · by_cases k10 : g 143 b = 10
      · have k10' : f (56 + 2 * b) 0 = 10 := k0.trans k10
        obtain ⟨q1, q2, q3⟩ := (hs b ha).2.2.2.2 k10
        have k89' : ¬ (f (56 + 2 * b) 0 = 8 ∨ f (56 + 2 * b) 0 = 9) := by rw [k10']; decide
        by_cases tz : f (56 + 2 * b) 7 = 0
        · have hx2 : weF f n b = (mm_up f (56 + 2 * b) 8 1, 2) := by
            unfold weF
            rw [if_neg k89', if_pos k10', if_pos tz]
          have hy : csF g N b = g := by
            unfold csF
            rw [if_neg]
            unfold csT
            intro z
            rcases of_decide_eq_true z with z | z | ⟨_, z⟩
            · exact k89 (Or.inl z)
            · exact k89 (Or.inr z)
            · exact z (q2.mp tz)
          rw [hy]
          have fr : ∀ y j, ¬ (y = 56 + 2 * b ∧ j = 8) → (mm_up f (56 + 2 * b) 8 1) y j = f y j := fun y j q => mm_up_ne _ _ (by omega)
          generalize mm_up f (56 + 2 * b) 8 1 = f1 at hx2 vf8 fr
          have d2 : dy n N m R W F cl nn P V t0 L f1 g := by
            refine hd0.move ha vf8 (gfr.rf g b) ⟨fun z => by omega, ?_, ?_, fun z => absurd z k89, fun _ => ?_⟩ ⟨v, vv1, by rw [fr _ _ (by omega)]; exact vv2, vv3⟩
            · rw [k10]; exact fun z => absurd z (by decide)
            · rw [k10]; exact fun z => absurd z (by decide)
            · rw [fr _ _ (by omega), fr _ _ (by omega)]; exact ⟨q1, q2, q3⟩
          have er : rmF n F f1 = rmF n F f := by unfold rmF; rw [fr _ _ (by omega)]
          have ow1 : owF N f1 b = 0 := by
            unfold owF
            rw [if_pos ha, fr _ _ (by omega), if_pos k10', if_neg (by rw [fr _ _ (by omega)]; exact fun z => z.1 tz)]
          obtain ⟨y1, y2⟩ := mv_rest (F := F) (fl := 0) vf8 a1 a3 ha (by omega) (by
            have := gmS_low (F := F) (fl := 0) vf8 a1 a3 ha h1 (by omega) (Or.inl rfl)
            rw [gmS_p ha h1 (by rw [fr _ _ (by omega), k10']; decide) (by rw [fr _ _ (by omega)]; exact k89'), gmS_p ha h1 (by rw [k10']; decide) k89', ow1]
            omega) hT (fun i T _ _ hU => ⟨T, by rw [fr _ _ (by omega)]; exact hU, by omega⟩)
          exact res_2 (hx.trans hx2) d2 ha hnc (fun i i1 i2 => by rw [fr _ _ (by omega)]; exact ho i (by omega) i2) y1 (by omega)
        · have hx2 : weF f n b = (wgF (mm_up f (56 + 2 * b) 8 1) n b, 1) := by
            unfold weF
            rw [if_neg k89', if_pos k10', if_neg tz]
          have hy : csF g N b = puF (N - (b + 1)) (csG g b) (b + 1) := by
            unfold csF
            rw [if_pos]
            unfold csT
            exact decide_eq_true (Or.inr (Or.inr ⟨k10, fun z => tz (q2.mpr z)⟩))
          rw [hy]
          have vf : vfr f (wgF (mm_up f (56 + 2 * b) 8 1) n b) n b := vf8.tr wgF_vfr
          have fr : ∀ y j, ¬ (y = 56 + 2 * b ∧ j = 8) → ¬ y = n + 1 → (wgF (mm_up f (56 + 2 * b) 8 1) n b) y j = f y j := fun y j q1 q2 => by
            unfold wgF
            rw [mm_up_ne _ _ (by omega), mm_up_ne _ _ (by omega), mm_up_ne _ _ (by omega)]
          have r0 : (wgF (mm_up f (56 + 2 * b) 8 1) n b) (n + 1) 0 = f (57 + 2 * b) 0 := by
            unfold wgF
            rw [mm_up_ne _ _ (by omega), mm_up_eq, mm_up_ne _ _ (by omega)]
          have r1 : (wgF (mm_up f (56 + 2 * b) 8 1) n b) (n + 1) 1 = f (56 + 2 * b) 7 := by
            unfold wgF
            rw [mm_up_eq, mm_up_ne _ _ (by omega)]
          have f8 : (wgF (mm_up f (56 + 2 * b) 8 1) n b) (56 + 2 * b) 8 = 1 := by
            unfold wgF
            rw [mm_up_ne _ _ (by omega), mm_up_ne _ _ (by omega), mm_up_eq]
          generalize wgF (mm_up f (56 + 2 * b) 8 1) n b = f1 at hx2 vf fr r0 r1 f8
          have gf := csG_gfr g b
          have hV : V (b + 1) = 2 := (k5.k10 k10).2.1
          have e143 : (csG g b) 143 b = 10 := by rw [csG_147 g b 143 b (by omega) (by omega)]; exact k10
          have d2 : dy n N m R W F cl nn P V t0 L f1 (csG g b) := by
            refine hd0.move ha vf gf ⟨fun z => by omega, ?_, ?_, ?_, fun _ => ?_⟩ ⟨v, vv1, by rw [fr _ _ (by omega) (by omega)]; exact vv2, by rw [csG_17]; exact vv3⟩
            · rw [e143]; exact fun z => absurd z (by decide)
            · rw [e143]; exact fun z => absurd z (by decide)
            · rw [e143]; exact fun z => absurd z (by decide)
            · rw [fr _ _ (by omega) (by omega), fr _ _ (by omega) (by omega), csG_147 g b 147 b (by omega) (by omega), csG_147 g b 149 b (by omega) (by omega), csG_147 g b 148 b (by omega) (by omega)]
              exact ⟨q1, q2, q3⟩
          have er : rmF n F f1 = rmF n F f := by unfold rmF; rw [fr _ _ (by omega) (by omega)]
          refine res_1 (hx.trans hx2) d2 ha (Nat.le_refl _) (fun i i1 i2 z => hnc i i1 i2 (CA_fr gf (by omega) z)) ⟨fun i i1 i2 => ?_, fun _ => ⟨by omega, by omega, ?_, ?_⟩⟩ (fun j hj => ?_) ?_ (fun fl hfl => ?_)
          · rw [fr _ _ (by omega) (by omega)]; exact ho i (by omega) i2
          · rw [Nat.add_sub_cancel, f8]; decide
          · rw [Nat.add_sub_cancel, fr _ _ (by omega) (by omega)]
            exact Or.inr (Or.inr k10')
          · rw [hV] at hj
            by_cases j0 : j = 0
            · subst j0
              rw [r0, q3 (fun z => tz (q2.mpr z))]
              unfold csG
              rw [mm_up_ne _ _ (by omega), mm_up_ne _ _ (by omega), mm_up_eq, if_pos k10]
            · have : j = 1 := by omega
              subst this
              rw [r1, q1]
              unfold csG
              rw [mm_up_ne _ _ (by omega), mm_up_eq]
          · unfold csG
            rw [mm_up_eq, if_pos k10, hV]; rfl
          · have ow1 : owF N f1 b = 0 := by
              unfold owF
              rw [if_pos ha, fr _ _ (by omega) (by omega), if_pos k10', if_neg (by rw [f8]; exact fun z => absurd z.2 (by decide))]
            have ow2 : owF N f b = 1 := by
              unfold owF
              rw [if_pos ha, if_pos k10', if_pos ⟨tz, o8⟩]
            obtain ⟨y1, y2⟩ := mv_give (F := F) (fl := 0) vf a1 a3 ha (by omega) hfl (by
              have := gmS_low (F := F) (fl := 0) vf a1 a3 ha h1 (by omega) hfl
              rw [gmS_p ha h1 (by rw [fr _ _ (by omega) (by omega), k10']; decide) (by rw [fr _ _ (by omega) (by omega)]; exact k89'), gmS_p ha h1 (by rw [k10']; decide) k89', ow1, ow2, if_neg (show ¬ fl = b by omega)]
              omega) hT (fun i T _ _ hU => ⟨T, by rw [fr _ _ (by omega) (by omega)]; exact hU, by omega⟩)
            exact ⟨y1, by omega⟩
      · have hx2 : weF f n b = (f, 2) := by
          unfold weF
          rw [k0, if_neg k89, if_neg k10]
        have hy : csF g N b = g := by
          unfold csF
          rw [if_neg]
          unfold csT
          intro z
          rcases of_decide_eq_true z with z | z | ⟨z, _⟩
          · exact k89 (Or.inl z)
          · exact k89 (Or.inr z)
          · exact k10 z
        rw [hy]
        exact res_2 (hx.trans hx2) hd0 ha hnc (fun i i1 i2 => ho i (by omega) i2) hT (by omega)
theorem any_step {n N m R W F t0 : Nat} {cl nn P V : Nat → Nat} {L : Nat → Nat → List Nat} {f g : mm_F} {a b : Nat} {w : Int32} (h : stt n N m R W F cl nn P V t0 L f g a w b) : res n N m R W F cl nn P V t0 L f a w (ms n N F f a w b) (hd N g a w) b := by
  rcases h.2.2.2 with ⟨e, _⟩ | ⟨e, _⟩ | ⟨e, _⟩
  · subst e; exact ask_step h
  · subst e; exact give_step h
  · subst e; exact end_step h
/-- class and reference run alike -/
theorem run_alike {n N m R W F t0 : Nat} {cl nn P V : Nat → Nat} {L : Nat → Nat → List Nat} : ∀ (M : Nat) {f g : mm_F} {a b : Nat} {w : Int32}, stt n N m R W F cl nn P V t0 L f g a w b → ms n N F f a w b ≤ M → ∃ r fc z k, ruM (M + 1) f n (N - 1) a w = some (r, fc) ∧ grM k (hd N g a w) N R b = some z ∧ fin n N m R W F cl nn P V t0 L r fc z := by
  intro M
  induction M with
  | zero =>
    intro f g a b w h hM
    rcases any_step h with ⟨r, f1, a1, w1, k, z, h1, h2, h3⟩ | ⟨f1, a1, w1, g1, b1, h1, h2, h3, h4⟩
    · refine ⟨r, f1, z, k, ?_, h2, h3⟩
      unfold ruM; rw [h1]
    · omega
  | succ M ih =>
    intro f g a b w h hM
    rcases any_step h with ⟨r, f1, a1, w1, k, z, h1, h2, h3⟩ | ⟨f1, a1, w1, g1, b1, h1, h2, h3, h4⟩
    · refine ⟨r, f1, z, k, ?_, h2, h3⟩
      unfold ruM; rw [h1]
    · obtain ⟨r, fc, z, k, y1, y2, y3⟩ := ih h2 (by omega)
      obtain ⟨k', hk'⟩ := h4 k z y2
      refine ⟨r, fc, z, k', ?_, hk', y3⟩
      unfold ruM; rw [h1]; exact y1
