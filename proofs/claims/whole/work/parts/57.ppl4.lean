/-! Pure: all steps of a plan, class beside reference. -/
theorem kS.of2 {f f' g g' : mm_F} {W m : Nat} {cl : Nat → Nat} (h : kS f g W m cl) (h1 : pfr f f') (h2 : rfr g g') : kS f' g' W m cl := by
  obtain ⟨a1, a2, a3, a4, a5, a6, a7⟩ := h
  refine ⟨?_, a2, fun i hi => ?_, ?_, a5, fun t ht => ?_, fun t c ht hc => ?_⟩
  · rw [h1 53 1 (by omega) (by omega)]; exact a1
  · rw [h1 54 i (by omega) (by omega), h2 142 i (by omega) (by omega) (by omega) (by omega)]; exact a3 i hi
  · rw [h1 2 1 (by omega) (by omega)]; exact a4
  · rw [h1 _ 0 (by omega) (by omega), h2 137 t (by omega) (by omega) (by omega) (by omega)]; exact a6 t ht
  · rw [h1 _ c (by omega) (by omega), h2 138 _ (by omega) (by omega) (by omega) (by omega)]; exact a7 t c ht hc
theorem kO.same {f f' g g' : mm_F} {W p v : Nat} (h : kO f g W p v) (e1 : f' 53 2 = f 53 2) (e2 : f' 53 6 = f 53 6) (e3 : f' 53 3 = f 53 3) (e4 : g' 136 11 = g 136 11) (e5 : g' 136 15 = g 136 15) : kO f' g' W p v := by
  unfold kO at h ⊢
  rw [e1, e2, e3, e4, e5]; exact h
theorem gst.of {f f' : mm_F} {W m : Nat} {cl : Nat → Nat} {k : Int32} {p v p' v' : Nat} (hm : m ≤ 4) (hp : pfr f f') (h : gst f' W m cl k p v p' v') : gst f W m cl k p v p' v' := by
  have e : f' 54 = f 54 := funext fun j => hp 54 j (by omega) (by omega)
  unfold gst at h ⊢
  rw [e] at h
  rcases h with z | z | ⟨z1, z2, t, d, c, y1, y2, y3, y4, y5, y6, y7, y8, y9⟩ | z
  · exact Or.inl z
  · exact Or.inr (Or.inl z)
  · refine Or.inr (Or.inr (Or.inl ⟨z1, z2, t, d, c, y1, y2, y3, y4, y5, y6, y7, y8, ?_⟩))
    rw [hp (5 + 12 * t) d (by omega) (by omega)] at y9; exact y9
  · exact Or.inr (Or.inr (Or.inr z))
theorem gst.next {f : mm_F} {W m : Nat} {cl : Nat → Nat} {k : Int32} {p v p' v' : Nat} (h : gst f W m cl k p v p' v') : p ≤ p' := by
  rcases h with z | ⟨_, n, _, _, _, z, _⟩ | z | z | z | z | z <;> omega
theorem itS_bad : ∀ (j : Nat) {f : mm_F}, ¬ f 53 2 = -1 → itS j f = f
  | 0, _, _ => rfl
  | j + 1, f, h => by
    unfold itS
    rw [if_neg h]
    split <;> rfl
theorem rpL_bad {W m : Nat} {cl : Nat → Nat} : ∀ (k : Nat) {g : mm_F} {p : Nat}, 0 ≤ g 136 11 → rpL W m cl k g p = g
  | 0, _, _, _ => rfl
  | k + 1, g, p, h => by
    unfold rpL
    rw [if_neg (fun z => absurd z.1 (Int32.not_lt.mpr h))]
/-- the steps below s are noted alike: places P, widths V -/
def kL (f0 f g : mm_F) (W m : Nat) (cl : Nat → Nat) (P V : Nat → Nat) (s : Nat) : Prop := ∀ i, 1 ≤ i → i < s → f (56 + 2 * i) 0 = g 143 i ∧ f (56 + 2 * i) 1 = nI (P i) ∧ g 144 i = nI (P i + 1) ∧ f (56 + 2 * i) 2 = nI (V i) ∧ g 145 i = nI (V i) ∧ gst f0 W m cl (g 143 i) (P i + 1) (V i) (P (i + 1)) (V (i + 1))
theorem steps_alike {f0 : mm_F} {W m : Nat} {cl : Nat → Nat} : ∀ (d j k : Nat) (f g : mm_F) (p v s : Nat) (P V : Nat → Nat), W ≤ p + d → d ≤ j → d ≤ k → kS f g W m cl → pfr f0 f → kO f g W p v → f 53 4 = nI s → g 136 10 = nI s → 1 ≤ s → s + 1 ≤ p → P s = p → V s = v → kL f0 f g W m cl P V s →
    kB (itS j f) (rpL W m cl k g p) ∨ ∃ s' P' V', kO (itS j f) (rpL W m cl k g p) W W (V' s') ∧ (itS j f) 53 4 = nI s' ∧ (rpL W m cl k g p) 136 10 = nI s' ∧ s ≤ s' ∧ s' + 1 ≤ W ∧ P' s' = W ∧ kL f0 (itS j f) (rpL W m cl k g p) W m cl P' V' s' ∧ ∀ i, i ≤ s → P' i = P i ∧ V' i = V i := by
  intro d
  induction d with
  | zero =>
    intro j k f g p v s P V hd hj hk hs hf0 h hc hc2 hs1 hsp hP hV hL
    obtain ⟨a1, a2, _⟩ := id hs
    have hpw : p ≤ W := h.2.2.2.1
    have e : p = W := by omega
    subst e
    have e1 : itS j f = f := by
      cases j with
      | zero => rfl
      | succ j =>
        show (if f 53 1 ≤ f 53 6 then f else _) = f
        rw [if_pos (by rw [a1, h.2.2.1]; exact Int32.le_refl _)]
    have e2 : rpL p m cl k g p = g := by
      cases k with
      | zero => rfl
      | succ k =>
        unfold rpL
        rw [if_neg (fun z => absurd z.2 (by omega))]
    rw [e1, e2]
    exact Or.inr ⟨s, P, V, by rw [hV]; exact h, hc, hc2, Nat.le_refl _, hsp, hP, hL, fun i _ => ⟨rfl, rfl⟩⟩
  | succ d ih =>
    intro j k f g p v s P V hd hj hk hs hf0 h hc hc2 hs1 hsp hP hV hL
    obtain ⟨a1, a2, a3, _, a5, _⟩ := id hs
    have hpw : p ≤ W := h.2.2.2.1
    by_cases hp : p < W
    · obtain ⟨j, rfl⟩ : ∃ j', j = j' + 1 := ⟨j - 1, by omega⟩
      obtain ⟨k, rfl⟩ : ∃ k', k = k' + 1 := ⟨k - 1, by omega⟩
      have es : (nI s).toNatClampNeg = s := nI_clamp (by omega)
      have hbs : bsF f = mm_up (mm_up (mm_up f (56 + 2 * s) 1 (nI p)) (56 + 2 * s) 2 (nI v)) 53 4 (nI (s + 1)) := by
        unfold bsF
        rw [hc, es, h.2.2.1, h.2.2.2.2.1, nI_1]
      have hb1 : pfr f (bsF f) := bsF_fr hc (by omega)
      have hkb : kO (bsF f) g W p v := h.same (by rw [hbs, mm_up_ne _ _ (by omega), mm_up_ne _ _ (by omega), mm_up_ne _ _ (by omega)]) (by rw [hbs, mm_up_ne _ _ (by omega), mm_up_ne _ _ (by omega), mm_up_ne _ _ (by omega)]) (by rw [hbs, mm_up_ne _ _ (by omega), mm_up_ne _ _ (by omega), mm_up_ne _ _ (by omega)]) rfl rfl
      have hsb : kS (bsF f) g W m cl := hs.of2 hb1 (rfr.rf g)
      have e54 : (bsF f) 54 p = g 142 p := by rw [hb1 54 p (by omega) (by omega)]; exact a3 p hp
      have hit : itS (j + 1) f = itS j (stF f) := by
        show (if f 53 1 ≤ f 53 6 then f else if f 53 2 = -1 then itS j (stF f) else f) = _
        rw [if_neg (by rw [a1, h.2.2.1, nI_leI (by omega) (by omega)]; omega), if_pos h.1]
      have hst : stF f = stF2 (mm_up (nx (bsF f) 3 10).1 (56 + 2 * s) 0 (nx (bsF f) 3 10).2) (nx (bsF f) 3 10).2 := by
        unfold stF
        rw [hc, es]
      have hrp : rpL W m cl (k + 1) g p = if (dm g W p (btw 3 10 (g 142 p))) 136 11 < 0 then rpL W m cl k (rsF (rpS g s p (g 142 p)) W m cl (g 142 p) (p + 1)).1 (rsF (rpS g s p (g 142 p)) W m cl (g 142 p) (p + 1)).2 else dm g W p (btw 3 10 (g 142 p)) := by
        show (if g 136 11 < 0 ∧ p < W then _ else g) = _
        rw [if_pos ⟨h.2.1, hp⟩, hc2, es]
      have hb : p < W → (btw 3 10 (g 142 p) = true ↔ (¬ (bsF f) 54 p < 3 ∧ (bsF f) 54 p ≤ 10)) := fun _ => by
        rw [e54]
        show decide (¬ g 142 p < 3 ∧ ¬ 10 < g 142 p) = true ↔ _
        rw [decide_eq_true_iff, Int32.not_lt (a := 10)]
      rcases nx_dm hsb hkb hb with ⟨q1, q2, q3, q4⟩ | ⟨q1, q2⟩
      · rw [q4, if_pos h.2.1] at hrp
        rw [q3, e54] at hst
        have hst' : stF f = stF2 (mm_up (mm_up (bsF f) 53 6 (nI (p + 1))) (56 + 2 * s) 0 (g 142 p)) (g 142 p) := hst
        have f1p : pfr f (mm_up (mm_up (bsF f) 53 6 (nI (p + 1))) (56 + 2 * s) 0 (g 142 p)) := (hb1.tr (pfr.up (by omega))).tr (pfr.up3 (by omega) (by omega))
        have g1p : rfr g (rpS g s p (g 142 p)) := rpS_fr _ _ _ _
        have k1 : kO (mm_up (mm_up (bsF f) 53 6 (nI (p + 1))) (56 + 2 * s) 0 (g 142 p)) (rpS g s p (g 142 p)) W (p + 1) v := (hkb.next hp).same (by rw [mm_up_ne _ _ (by omega)]) (by rw [mm_up_ne _ _ (by omega)]) (by rw [mm_up_ne _ _ (by omega)]) (by unfold rpS; rw [mm_up_ne _ _ (by omega), mm_up_ne _ _ (by omega), mm_up_ne _ _ (by omega), mm_up_ne _ _ (by omega)]) (by unfold rpS; rw [mm_up_ne _ _ (by omega), mm_up_ne _ _ (by omega), mm_up_ne _ _ (by omega), mm_up_ne _ _ (by omega)])
        have s1 := hs.of2 f1p g1p
        have n1 : (mm_up (mm_up (bsF f) 53 6 (nI (p + 1))) (56 + 2 * s) 0 (g 142 p)) 53 4 = nI (s + 1) := by rw [mm_up_ne _ _ (by omega), mm_up_ne _ _ (by omega), hbs, mm_up_eq]
        have n2 : (rpS g s p (g 142 p)) 136 10 = nI (s + 1) := by unfold rpS; rw [mm_up_eq]
        have o0 : (mm_up (mm_up (bsF f) 53 6 (nI (p + 1))) (56 + 2 * s) 0 (g 142 p)) (56 + 2 * s) 0 = g 142 p := mm_up_eq _ _ _ _
        have o1 : (mm_up (mm_up (bsF f) 53 6 (nI (p + 1))) (56 + 2 * s) 0 (g 142 p)) (56 + 2 * s) 1 = nI p := by rw [mm_up_ne _ _ (by omega), mm_up_ne _ _ (by omega), hbs, mm_up_ne _ _ (by omega), mm_up_ne _ _ (by omega), mm_up_eq]
        have o2 : (mm_up (mm_up (bsF f) 53 6 (nI (p + 1))) (56 + 2 * s) 0 (g 142 p)) (56 + 2 * s) 2 = nI v := by rw [mm_up_ne _ _ (by omega), mm_up_ne _ _ (by omega), hbs, mm_up_ne _ _ (by omega), mm_up_eq]
        have oo : ∀ i c, ¬ i = s → (mm_up (mm_up (bsF f) 53 6 (nI (p + 1))) (56 + 2 * s) 0 (g 142 p)) (56 + 2 * i) c = f (56 + 2 * i) c := fun i c hi => by rw [mm_up_ne _ _ (by omega), mm_up_ne _ _ (by omega), hbs, mm_up_ne _ _ (by omega), mm_up_ne _ _ (by omega), mm_up_ne _ _ (by omega)]
        have w3 : (rpS g s p (g 142 p)) 143 s = g 142 p := by unfold rpS; rw [mm_up_ne _ _ (by omega), mm_up_ne _ _ (by omega), mm_up_ne _ _ (by omega), mm_up_eq]
        have w4 : (rpS g s p (g 142 p)) 144 s = nI (p + 1) := by unfold rpS; rw [mm_up_ne _ _ (by omega), mm_up_ne _ _ (by omega), mm_up_eq]
        have w5 : (rpS g s p (g 142 p)) 145 s = nI v := by unfold rpS; rw [mm_up_ne _ _ (by omega), mm_up_eq]; exact h.2.2.2.2.2.1
        have wo : ∀ i c, ¬ i = s → (c = 143 ∨ c = 144 ∨ c = 145) → (rpS g s p (g 142 p)) c i = g c i := fun i c hi hc => by unfold rpS; rw [mm_up_ne _ _ (by omega), mm_up_ne _ _ (by omega), mm_up_ne _ _ (by omega), mm_up_ne _ _ (by omega)]
        rw [hit, hrp, hst']
        generalize mm_up (mm_up (bsF f) 53 6 (nI (p + 1))) (56 + 2 * s) 0 (g 142 p) = f1 at *
        generalize rpS g s p (g 142 p) = g1 at *
        rcases st_rs s1 k1 q2 with ⟨p', v', z1, z2, z3⟩ | z
        · have hpp := z3.next
          rw [z2]
          have sf := stF2_fr f1 (g 142 p)
          have rf := rsF_fr g1 W m cl (g 142 p) (p + 1)
          generalize stF2 f1 (g 142 p) = f2 at *
          generalize (rsF g1 W m cl (g 142 p) (p + 1)).1 = g2 at *
          have fp := hf0.tr f1p
          have hkL : kL f0 f2 g2 W m cl (fun i => if i = s + 1 then p' else P i) (fun i => if i = s + 1 then v' else V i) (s + 1) := fun i i1 i2 => by
            rw [sf _ 0 (by omega), sf _ 1 (by omega), sf _ 2 (by omega), rf 143 i (by omega), rf 144 i (by omega), rf 145 i (by omega)]
            by_cases y : i = s
            · subst y
              rw [o0, o1, o2, w3, w4, w5]
              simp only [if_neg (show ¬ i = i + 1 by omega), if_pos rfl]
              rw [hP, hV]
              exact ⟨trivial, rfl, rfl, rfl, rfl, z3.of a5 fp⟩
            · rw [oo i 0 y, oo i 1 y, oo i 2 y, wo i 143 y (by omega), wo i 144 y (by omega), wo i 145 y (by omega)]
              simp only [if_neg (show ¬ i = s + 1 by omega), if_neg (show ¬ i + 1 = s + 1 by omega)]
              exact hL i i1 (by omega)
          rcases ih j k f2 g2 p' v' (s + 1) (fun i => if i = s + 1 then p' else P i) (fun i => if i = s + 1 then v' else V i) (by omega) (by omega) (by omega) (s1.of sf rf) (fp.tr sf.p) z1 (by rw [sf 53 4 (by omega)]; exact n1) (by rw [rf 136 10 (by omega)]; exact n2) (by omega) (by omega) (if_pos rfl) (if_pos rfl) hkL with y | ⟨s', P', V', y1, y2, y3, y4, y5, y6, y7, y8⟩
          · exact Or.inl y
          · refine Or.inr ⟨s', P', V', y1, y2, y3, by omega, y5, y6, y7, fun i hi => ?_⟩
            obtain ⟨x1, x2⟩ := y8 i (by omega)
            rw [x1, x2]
            exact ⟨if_neg (by omega), if_neg (by omega)⟩
        · left
          rw [itS_bad _ z.cb, rpL_bad _ z.rb]; exact z
      · left
        rw [if_neg (Int32.not_lt.mpr q1.rb)] at hrp
        have e : ∀ x : mm_F, stF2 x (-1) = x := fun x => by
          unfold stF2
          rw [if_neg (by decide), if_neg (by decide), if_neg (by decide), if_neg (by decide), if_neg (by decide), if_neg (by decide), if_neg (by decide), if_neg (by decide)]
        rw [q2, e] at hst
        have kb : kB (stF f) (dm g W p (btw 3 10 (g 142 p))) := by
          rw [hst]; exact q1.of (mm_up_ne _ _ (by omega)) rfl
        rw [hit, hrp, itS_bad _ kb.cb]; exact kb
    · have e := ih j k f g p v s P V (by omega) (by omega) (by omega) hs hf0 h hc hc2 hs1 hsp hP hV hL
      exact e
