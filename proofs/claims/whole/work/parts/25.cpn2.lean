/-! Contracts of the plan's look: the source, a step, the whole. -/
section CPN2
variable {E : mm_E} {w : mm_W} {f : mm_F}
theorem c_PN_lookAtSource {c : Nat} (hw : mm_sh w) (hp : Pok f) (hT : Tok f) (hc : f 53 4 = nI c) (hc2 : c < 39) : mm_C E y_PN_lookAtSource b_PN_lookAtSource 4 none 2 0 0 [mm_rf E 53, mm_rf E 2] w f (mm_P none w (srF f)) := by
  refine mm_start (by decide) rfl (Nat.le_of_ble_eq_true rfl) fun Γ h he => ?_
  have ec := nI_clamp (n := c) (by omega)
  have hpb := bsF_pok hc hc2 hp
  have hTb := hT.p (bsF_fr hc hc2)
  have hx : srF f = srF2 (mm_up (nx (bsF f) 1 2).1 (56 + 2 * c) 0 (nx (bsF f) 1 2).2) (nx (bsF f) 1 2).2 := by unfold srF; rw [hc, ec]
  refine s_PN_lookAtSource_0 (vl0 := 0) (vc0 := 0) (vs0 := 0) h hw (by omega) (by omega) (by omega) (c_PN_beginStep hw hc hc2) ?_
  rintro _ _ _ ⟨rfl, rfl, rfl⟩
  refine s_PN_lookAtSource_4 (sk0 := c) (vl0 := 0) (vc0 := 0) (vs0 := 0) h hw hc2 (by omega) (by omega) (by omega) (c_PN_next hw hpb) ?_
  rintro _ _ _ ⟨rfl, rfl, rfl⟩
  have hpg := nx_pok (lo := 1) (hi := 2) hpb
  have hTg := hTb.n (nx_fr (bsF f) 1 2)
  generalize nx (bsF f) 1 2 = g at hx hpg hTg ⊢
  have hp2 : Pok (mm_up g.1 (56 + 2 * c) 0 g.2) := hpg.up (by omega)
  have hT2 : Tok (mm_up g.1 (56 + 2 * c) 0 g.2) := hTg.p (pfr.up3 hc2 (by omega))
  have hk2 : (mm_up g.1 (56 + 2 * c) 0 g.2) (56 + 2 * c) 0 = g.2 := mm_up_eq _ _ _ _
  refine s_PN_lookAtSource_12 (s2 := c) (sk0 := c) (vl0 := 0) (vc0 := 0) (vs0 := 0) h hw hc2 hc2 (by omega) (by omega) (by omega) (c_PN_next hw hp2) ?_
  rintro _ _ _ ⟨rfl, rfl, rfl⟩
  generalize mm_up g.1 (56 + 2 * c) 0 g.2 = k at hx hp2 hT2 hk2 ⊢
  have hx2 : srF2 k g.2 = if (nx k 0 (k 2 1 - 1)).1 53 2 = -1 then srF3 (nx k 0 (k 2 1 - 1)).1 g.2 (nx k 0 (k 2 1 - 1)).2.toNatClampNeg else (nx k 0 (k 2 1 - 1)).1 := rfl
  rw [hx2] at hx
  have hres := nx_res (lo := 0) (hi := k 2 1 - 1) hp2
  have hpq := nx_pok (lo := 0) (hi := k 2 1 - 1) hp2
  have hfq := nx_fr k 0 (k 2 1 - 1)
  generalize nx k 0 (k 2 1 - 1) = q at hx hres hpq hfq ⊢
  obtain ⟨m, hm, hm1, hm2⟩ := hT2
  have hword : q.1 53 2 = -1 → ∃ t : Nat, t < m ∧ q.2 = nI t := fun c1 => by
    obtain ⟨-, r1, r2⟩ := hres c1
    rw [hm1] at r2
    exact tok_word hm r1 r2
  have hkq : q.1 (56 + 2 * c) 0 = g.2 := by rw [hfq _ 0 (by omega)]; exact hk2
  have fin : ∀ (t : Nat) (z : mm_F), t < m → srF f = mm_up z 53 3 (z (4 + 12 * t) 0) → mm_go E Γ 4 62 [(0, mm_rf E 53), (1, mm_rf E 2), (2, mm_rf E (56 + 2 * c)), (3, .int (nI t))] [] w z 0 0 := by
    intro t z ht e
    refine s_PN_lookAtSource_62 h he (Nat.le_refl _) (Nat.le_refl _) hw hc2 (mm_inI (by omega) (by omega)) ?_
    rw [nI_clamp (by omega), e]
    exact mm_Pr
  by_cases c1 : q.1 53 2 = -1
  · obtain ⟨t, ht, e⟩ := hword c1
    obtain ⟨cc, hcc, hcc1⟩ := hm2 t ht
    have et : q.2.toNatClampNeg = t := by rw [e]; exact nI_clamp (by omega)
    rw [if_pos c1, et] at hx
    unfold srF3 at hx
    rw [e]
    have hcq : q.1 (4 + 12 * t) 0 = nI cc := by rw [hfq _ 0 (by omega)]; exact hcc1
    refine s_PN_lookAtSource_26 (s2 := c) (vl0 := 1) (vc0 := 0) (vs0 := 0) h he (Nat.le_refl _) (Nat.le_refl _) hw hc2 (fun _ c2 => ?_) (fun _ _ => mm_inI (by omega) (by omega)) (by omega) (by omega) (by omega) (fun _ _ => by rw [nI_clamp (by omega)]; exact c_PN_nextIndexed hw (by omega) hpq hcq hcc) (fun _ c2 => ?_) (fun c3 => absurd c1 c3)
    · rw [hkq] at c2
      rw [if_neg c2] at hx
      exact fin t _ ht hx
    · rw [hkq] at c2
      rw [if_pos c2] at hx
      rintro _ _ _ ⟨rfl, rfl, rfl⟩
      refine s_PN_lookAtSource_54 (vl0 := 1) (vc0 := 0) (vs0 := 0) h hw hc2 (by omega) (by omega) (by omega) (c_PN_nextAny hw (nXi_pok hpq)) ?_
      rintro _ _ _ ⟨rfl, rfl, rfl⟩
      refine s_PN_lookAtSource_58 (vl0 := 1) (vc0 := 0) (vs0 := 0) h hw hc2 (by omega) (by omega) (by omega) (c_PN_nextAny hw (nA_pok (nXi_pok hpq))) ?_
      rintro _ _ _ ⟨rfl, rfl, rfl⟩
      exact fin t _ ht hx
  · rw [if_neg c1] at hx
    refine s_PN_lookAtSource_26 (s2 := c) (vl0 := 1) (vc0 := 0) (vs0 := 0) (P0 := fun _ _ _ => False) h he (Nat.le_refl _) (Nat.le_refl _) hw hc2 (fun c3 _ => absurd c3 c1) (fun c3 _ => absurd c3 c1) (by omega) (by omega) (by omega) (fun c3 _ => absurd c3 c1) (fun c3 _ => absurd c3 c1) (fun _ => ?_)
    rw [hx]
    exact mm_Pr
theorem c_PN_lookAtStep {c : Nat} (hw : mm_sh w) (hp : Pok f) (hT : Tok f) (hc : f 53 4 = nI c) (hc2 : c < 39) : mm_C E y_PN_lookAtStep b_PN_lookAtStep 3 none 3 0 0 [mm_rf E 53, mm_rf E 2] w f (mm_P none w (stF f)) := by
  refine mm_start (by decide) rfl (Nat.le_of_ble_eq_true rfl) fun Γ h he => ?_
  have ec := nI_clamp (n := c) (by omega)
  have hpb := bsF_pok hc hc2 hp
  have hTb := hT.p (bsF_fr hc hc2)
  have hx : stF f = stF2 (mm_up (nx (bsF f) 3 10).1 (56 + 2 * c) 0 (nx (bsF f) 3 10).2) (nx (bsF f) 3 10).2 := by unfold stF; rw [hc, ec]
  refine s_PN_lookAtStep_0 (vl0 := 0) (vc0 := 0) (vs0 := 0) h hw (by omega) (by omega) (by omega) (c_PN_beginStep hw hc hc2) ?_
  rintro _ _ _ ⟨rfl, rfl, rfl⟩
  refine s_PN_lookAtStep_4 (sk0 := c) (vl0 := 0) (vc0 := 0) (vs0 := 0) h hw hc2 (by omega) (by omega) (by omega) (c_PN_next hw hpb) ?_
  rintro _ _ _ ⟨rfl, rfl, rfl⟩
  have hpg := nx_pok (lo := 3) (hi := 10) hpb
  have hTg := hTb.n (nx_fr (bsF f) 3 10)
  generalize nx (bsF f) 3 10 = g at hx hpg hTg ⊢
  have hp2 : Pok (mm_up g.1 (56 + 2 * c) 0 g.2) := hpg.up (by omega)
  have hT2 : Tok (mm_up g.1 (56 + 2 * c) 0 g.2) := hTg.p (pfr.up3 hc2 (by omega))
  have hk2 : (mm_up g.1 (56 + 2 * c) 0 g.2) (56 + 2 * c) 0 = g.2 := mm_up_eq _ _ _ _
  generalize hy : mm_up g.1 (56 + 2 * c) 0 g.2 = k at hx hp2 hT2 hk2
  have z144 : ∀ z : mm_F, stF f = z → mm_go E Γ 3 144 [(0, mm_rf E 53), (1, mm_rf E 2), (2, mm_rf E (56 + 2 * c))] [] w z 0 0 := fun z e =>
    s_PN_lookAtStep_144 h he (Nat.le_refl _) (Nat.le_refl _) hw hc2 (by rw [e]; exact mm_Pr)
  have z101 : stF f = (nx k 0 2147483647).1 → mm_go E Γ 3 101 [(0, mm_rf E 53), (1, mm_rf E 2), (2, mm_rf E (56 + 2 * c))] [] w k 0 0 := fun e => by
    refine s_PN_lookAtStep_101 (vl0 := 0) (vc0 := 0) (vs0 := 0) h hw hc2 (by omega) (by omega) (by omega) (c_PN_next hw hp2) ?_
    rintro _ _ _ ⟨rfl, rfl, rfl⟩
    exact s_PN_lookAtStep_108 h hw hc2 (z144 _ e)
  unfold stF2 at hx
  refine s_PN_lookAtStep_13 (s2 := c) (sk0 := c) h hw hc2 hc2 (fun c1 => ?_) (fun c1 c2 => ?_) (fun c1 c2 c3 => ?_) (fun c1 c2 c3 c4 => ?_) (fun c1 c2 c3 c4 c5 => ?_) (fun c1 c2 c3 c4 c5 c6 => ?_) (fun c1 c2 c3 c4 c5 c6 c7 => ?_) (fun c1 c2 c3 c4 c5 c6 c7 c8 => ?_) (fun c1 c2 c3 c4 c5 c6 c7 c8 => ?_)
  all_goals (rw [hy] at *)
  · rw [hk2] at c1
    rw [if_pos c1] at hx
    refine s_PN_lookAtStep_68 (vl0 := 1) (vc0 := 0) (vs0 := 0) h hw hc2 (by omega) (by omega) (by omega) (c_PN_nextColumn hw hp2) ?_
    rintro _ _ _ ⟨rfl, rfl, rfl⟩
    refine s_PN_lookAtStep_72 (vl0 := 0) (vc0 := 0) (vs0 := 0) h hw hc2 (by omega) (by omega) (by omega) (c_PN_next hw (nC_pok hp2)) ?_
    rintro _ _ _ ⟨rfl, rfl, rfl⟩
    refine s_PN_lookAtStep_78 (vl0 := 1) (vc0 := 0) (vs0 := 0) h hw hc2 (by omega) (by omega) (by omega) (c_PN_nextAny hw (nx_pok (nC_pok hp2))) ?_
    rintro _ _ _ ⟨rfl, rfl, rfl⟩
    exact s_PN_lookAtStep_83 h hw hc2 (z144 _ hx)
  · rw [hk2] at c1 c2
    rw [if_neg c1, if_pos c2] at hx
    refine s_PN_lookAtStep_86 (vl0 := 2) (vc0 := 0) (vs0 := 0) h hw hc2 (by omega) (by omega) (by omega) (c_PN_lookAtPick hw hp2) ?_
    rintro _ _ _ ⟨rfl, rfl, rfl⟩
    exact s_PN_lookAtStep_90 h hw hc2 (z144 _ hx)
  · rw [hk2] at c1 c2 c3
    rw [if_neg c1, if_neg c2, if_pos c3] at hx
    refine s_PN_lookAtStep_93 (vl0 := 2) (vc0 := 0) (vs0 := 0) h hw hc2 (by omega) (by omega) (by omega) (c_PN_lookAtJoin hw hp2 hT2) ?_
    rintro _ _ _ ⟨rfl, rfl, rfl⟩
    exact s_PN_lookAtStep_98 h hw hc2 (z144 _ hx)
  · rw [hk2] at c1 c2 c3 c4
    rw [if_neg c1, if_neg c2, if_neg c3, if_pos c4] at hx
    exact z101 hx
  · rw [hk2] at c1 c2 c3 c4 c5
    rw [if_neg c1, if_neg c2, if_neg c3, if_neg c4, if_pos c5] at hx
    exact z101 hx
  · rw [hk2] at c1 c2 c3 c4 c5 c6
    rw [if_neg c1, if_neg c2, if_neg c3, if_neg c4, if_neg c5, if_pos c6] at hx
    exact s_PN_lookAtStep_112 h hw hc2 (z144 _ hx)
  · rw [hk2] at c1 c2 c3 c4 c5 c6 c7
    rw [if_neg c1, if_neg c2, if_neg c3, if_neg c4, if_neg c5, if_neg c6, if_pos c7] at hx
    refine s_PN_lookAtStep_120 (vl0 := 1) (vc0 := 0) (vs0 := 0) h hw hc2 (by omega) (by omega) (by omega) (c_PN_nextColumn hw hp2) ?_
    rintro _ _ _ ⟨rfl, rfl, rfl⟩
    exact s_PN_lookAtStep_124 h hw hc2 (z144 _ hx)
  · rw [hk2] at c1 c2 c3 c4 c5 c6 c7 c8
    rw [if_neg c1, if_neg c2, if_neg c3, if_neg c4, if_neg c5, if_neg c6, if_neg c7, if_pos c8] at hx
    refine s_PN_lookAtStep_132 (vl0 := 1) (vc0 := 0) (vs0 := 0) h hw hc2 (by omega) (by omega) (by omega) (c_PN_nextColumn hw hp2) ?_
    rintro _ _ _ ⟨rfl, rfl, rfl⟩
    exact s_PN_lookAtStep_136 h hw hc2 (z144 _ hx)
  · rw [hk2] at c1 c2 c3 c4 c5 c6 c7 c8
    rw [if_neg c1, if_neg c2, if_neg c3, if_neg c4, if_neg c5, if_neg c6, if_neg c7, if_neg c8] at hx
    exact z144 _ hx
theorem c_PN_lookThrough {len : Nat} (hw : mm_sh w) (hl : f 53 1 = nI len) (hl2 : len ≤ 40) (hT : Tok f) : mm_C E y_PN_lookThrough b_PN_lookThrough 3 none 4 0 0 [mm_rf E 53, mm_rf E 2] w f (mm_P none w (ltF f)) := by
  refine mm_start (by decide) rfl (Nat.le_of_ble_eq_true rfl) fun Γ h he => ?_
  have hx : ltF f = itS 38 (srF (mm_up (mm_up (mm_up (mm_up f 53 2 (-1)) 53 3 0) 53 4 0) 53 6 0)) := rfl
  have hf0 : pfr f (mm_up (mm_up (mm_up (mm_up f 53 2 (-1)) 53 3 0) 53 4 0) 53 6 0) := (((pfr.up (by omega)).tr (pfr.up (by omega))).tr (pfr.up (by omega))).tr (pfr.up (by omega))
  have hp0 : Pok (mm_up (mm_up (mm_up (mm_up f 53 2 (-1)) 53 3 0) 53 4 0) 53 6 0) := ⟨0, len, mm_up_eq _ _ _ _, by rw [hf0 53 1 (by omega) (by omega)]; exact hl, Nat.zero_le _, hl2⟩
  have hc0 : (mm_up (mm_up (mm_up (mm_up f 53 2 (-1)) 53 3 0) 53 4 0) 53 6 0) 53 4 = nI 0 := by rw [mm_up_ne _ _ (by omega), mm_up_eq]; rfl
  have hT0 := hT.p hf0
  refine s_PN_lookThrough_0 (vl0 := 2) (vc0 := 0) (vs0 := 0) h hw (by omega) (by omega) (by omega) (c_PN_lookAtSource hw hp0 hT0 hc0 (by omega)) ?_
  rintro _ _ _ ⟨rfl, rfl, rfl⟩
  generalize mm_up (mm_up (mm_up (mm_up f 53 2 (-1)) 53 3 0) 53 4 0) 53 6 0 = g at hx hp0 hc0 hT0 ⊢
  refine s_PN_lookThrough_25 h hw ?_
  have loop : ∀ d s, s + d = 39 → ∀ k : mm_F, Pok k → Tok k → k 53 4 = nI s → ltF f = itS d k → mm_go E Γ 3 27 [(0, mm_rf E 53), (1, mm_rf E 2), (2, .int (nI s))] [] w k 0 0 := by
    intro d
    induction d with
    | zero =>
      intro s hs k hp hT hc e
      have hs' : s = 39 := by omega
      subst hs'
      have z63 : mm_go E Γ 3 63 [(0, mm_rf E 53), (1, mm_rf E 2), (2, .int (nI 39))] [] w k 0 0 := s_PN_lookThrough_63 h he (Nat.le_refl _) (Nat.le_refl _) hw (by rw [e]; exact mm_Pr)
      refine s_PN_lookThrough_27 (vl0 := 0) (vc0 := 0) (vs0 := 0) (P0 := fun _ _ _ => False) h hw (fun _ => z63) (fun q => absurd (by decide) q) (fun q => absurd (by decide) q) (by omega) (by omega) (by omega) (fun q => absurd (by decide) q) (fun q => absurd (by decide) q)
    | succ d ih =>
      intro s hs k hp hT hc e
      have e' : ltF f = if k 53 1 ≤ k 53 6 then k else if k 53 2 = -1 then itS d (stF k) else k := e
      have z63 : ltF f = k → mm_go E Γ 3 63 [(0, mm_rf E 53), (1, mm_rf E 2), (2, .int (nI s))] [] w k 0 0 := fun e => s_PN_lookThrough_63 h he (Nat.le_refl _) (Nat.le_refl _) hw (by rw [e]; exact mm_Pr)
      have h39 : (39 : Int32) = nI 39 := by decide
      refine s_PN_lookThrough_27 (vl0 := 3) (vc0 := 0) (vs0 := 0) h hw (fun q => ?_) (fun _ c2 => z63 (by rw [e', if_pos c2])) (fun _ c2 c3 => z63 (by rw [e', if_neg c2, if_neg c3])) (by omega) (by omega) (by omega) (fun _ _ _ => c_PN_lookAtStep hw hp hT hc (by omega)) (fun _ c2 c3 => ?_)
      · rw [h39, nI_leI (by omega) (by omega)] at q; omega
      · rintro _ _ _ ⟨rfl, rfl, rfl⟩
        refine s_PN_lookThrough_57 h hw ?_
        rw [nI_1]
        exact ih (s + 1) (by omega) _ (stF_pok hc (by omega) hp) (hT.p (stF_fr hc (by omega))) (stF_cnt hc (by omega)) (by rw [e', if_neg c2, if_pos c3])
  exact loop 38 1 (by omega) _ (srF_pok hc0 (by omega) hp0) (hT0.p (srF_fr hc0 (by omega))) (srF_cnt hc0 (by omega)) hx
end CPN2
