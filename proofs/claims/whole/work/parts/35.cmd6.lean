/-! Contracts of the reference's run: further leaves. -/
section CMD6
variable {E : mm_E} {w : mm_W} {f : mm_F} {s R : Nat}
theorem c_MD_nextOfStep {a t d c : Nat} (hw : mm_sh w) (hR : f 136 5 = nI R) (hR2 : R ≤ 48) (hs : s < 40) (ha : f 144 s = nI a) (ha2 : a + 2 < 40) (ht : f 142 a = nI t) (hd : f 142 (a + 1) = nI d) (hd2 : d < 4) (hc : f 142 (a + 2) = nI c) (hc2 : c < 8) : mm_C E y_MD_nextOfStep b_MD_nextOfStep 9 (some .int) 0 0 0 [mm_rf E 136, .int (nI s)] w f (mm_P (some (.int (ntF f s R).2)) w (ntF f s R).1) := by
  refine mm_start (by decide) rfl (Nat.le_of_ble_eq_true rfl) fun Γ h he => ?_
  have i2 : (2 : Int32) = nI 2 := rfl
  have es : (nI s).toNatClampNeg = s := nI_clamp (by omega)
  have ea : (nI a).toNatClampNeg = a := nI_clamp (by omega)
  have ea1 : (nI (a + 1)).toNatClampNeg = a + 1 := nI_clamp (by omega)
  have ea2 : (nI (a + 2)).toNatClampNeg = a + 2 := nI_clamp (by omega)
  have ed : (nI d).toNatClampNeg = d := nI_clamp (by omega)
  have ec : (nI c).toNatClampNeg = c := nI_clamp (by omega)
  have pa : pA f s = a := by unfold pA; rw [ha, ea]
  have hX : ntX f s R = ntB f s d (nI t) (f 150 (8 * s + c)) R := by
    unfold ntX pw
    rw [pa, hd, hc, ed, ec]
    show ntB f s d (f 142 (a + 0)) _ R = _
    rw [Nat.add_zero, ht]
  have hx : ntF f s R = if ntX f s R < 0 then (f, ntX f s R) else (mm_up (mm_up f 148 s (f 141 (4 * (ntX f s R).toNatClampNeg))) 147 s 1, ntX f s R) := rfl
  rw [hX] at hx
  generalize hT : nI t = T at hx ht
  generalize hY : f 150 (8 * s + c) = Y at hx
  have loop : ∀ k r, r + k = R → mm_go E Γ 9 57 [(0, mm_rf E 136), (1, .int (nI s)), (2, .int T), (3, .int (nI d)), (4, .int Y), (5, .int (ntB f s d T Y r)), (6, .int (nI r))] [] w f 0 0 := by
    intro k
    induction k with
    | zero =>
      intro r hr
      have hr' : r = R := by omega
      subst hr'
      refine s_MD_nextOfStep_57 h hw (fun _ c2 => ?_) (fun _ c2 => ?_) (fun _ c2 => ?_) (fun _ c2 => ?_) (fun q => ?_) (fun q => ?_) (fun q => ?_) (fun q => ?_) (fun q => ?_) (fun q => ?_) (fun q => ?_) (fun q => ?_) (fun q => ?_)
      · rw [if_pos c2] at hx
        exact s_MD_nextOfStep_197 h he (Nat.le_refl _) (Nat.le_refl _) hw (by rw [hx]; exact mm_Pr)
      · rcases ntB_val f s d T Y r with hv | ⟨j, hj, hv⟩
        · rw [hv] at c2; exact absurd (by decide) c2
        · rw [hv, nI_4]; exact mm_inI (by omega) (by omega)
      · exact mm_inI (by omega) (by omega)
      · rw [if_neg c2] at hx
        rcases ntB_val f s d T Y r with hv | ⟨j, hj, hv⟩
        · rw [hv] at c2; exact absurd (by decide) c2
        · refine s_MD_nextOfStep_197 h he (Nat.le_refl _) (Nat.le_refl _) hw ?_
          rw [hx, hv, es, nI_clamp (n := j) (by omega), nI_4, nI_clamp (n := 4 * j) (by omega)]
          exact mm_Pr
      all_goals exact absurd (by rw [hR]; exact Int32.le_refl _) q
    | succ k ih =>
      intro r hr
      have e2 : (nI (4 * r)).toNatClampNeg = 4 * r := nI_clamp (by omega)
      have e3 : (nI r).toNatClampNeg = r := nI_clamp (by omega)
      have e1 : (nI (4 * r + d)).toNatClampNeg = 4 * r + d := nI_clamp (by omega)
      have hs' : ntB f s d T Y (r + 1) = if ntP f s d T Y r = true ∧ (ntB f s d T Y r < 0 ∨ ¬ f 141 (4 * (ntB f s d T Y r).toNatClampNeg) ≤ f 141 (4 * r)) then nI r else ntB f s d T Y r := rfl
      have hP : ntP f s d T Y r = decide (f 140 r = T ∧ f 141 (4 * r + d) = Y ∧ (f 147 s = 0 ∨ ¬ f 141 (4 * r) ≤ f 148 s)) := rfl
      have ih1 := ih (r + 1) (by omega)
      generalize hK : f 141 (4 * r) = K at hs' hP
      have no : ∀ b : Int32, ¬ (ntP f s d T Y r = true ∧ (ntB f s d T Y r < 0 ∨ ¬ f 141 (4 * (ntB f s d T Y r).toNatClampNeg) ≤ K)) → mm_go E Γ 9 160 [(0, mm_rf E 136), (1, .int (nI s)), (2, .int T), (3, .int (nI d)), (4, .int Y), (5, .int (ntB f s d T Y r)), (6, .int (nI r)), (7, .int K), (8, .int b)] [] w f 0 0 := by
        intro b q
        rw [if_neg q] at hs'
        refine s_MD_nextOfStep_160 h hw (s_MD_nextOfStep_162 h hw ?_)
        rw [nI_1, ← hs']; exact ih1
      have yes : ∀ b : Int32, (ntP f s d T Y r = true ∧ (ntB f s d T Y r < 0 ∨ ¬ f 141 (4 * (ntB f s d T Y r).toNatClampNeg) ≤ K)) → mm_go E Γ 9 155 [(0, mm_rf E 136), (1, .int (nI s)), (2, .int T), (3, .int (nI d)), (4, .int Y), (5, .int (ntB f s d T Y r)), (6, .int (nI r)), (7, .int K), (8, .int b)] [] w f 0 0 := by
        intro b q
        rw [if_pos q] at hs'
        refine s_MD_nextOfStep_155 h hw (s_MD_nextOfStep_162 h hw ?_)
        rw [nI_1, ← hs']; exact ih1
      have g129 : ∀ b : Bool, b = ntP f s d T Y r → mm_go E Γ 9 129 [(0, mm_rf E 136), (1, .int (nI s)), (2, .int T), (3, .int (nI d)), (4, .int Y), (5, .int (ntB f s d T Y r)), (6, .int (nI r)), (7, .int K)] [.int (bI b)] w f 0 0 := by
        intro b hb
        rw [hb]
        rcases ntB_val f s d T Y r with hv | ⟨j, hj, hv⟩
        · have c0 : ntB f s d T Y r < 0 := by rw [hv]; decide
          exact s_MD_nextOfStep_129 h hw (fun q => no _ fun z => by rw [bI_eq0 q] at z; exact absurd z.1 (by decide)) (fun q _ => yes _ ⟨bI_ne0 q, Or.inl c0⟩) (fun _ q => absurd c0 q) (fun _ q => absurd c0 q) (fun _ q => absurd c0 q)
        · have c0 : ¬ ntB f s d T Y r < 0 := by rw [hv]; exact nI_lt0 j (by omega)
          have e6 : (ntB f s d T Y r).toNatClampNeg = j := by rw [hv, nI_clamp (by omega)]
          have e8 : (4 * ntB f s d T Y r).toNatClampNeg = 4 * (ntB f s d T Y r).toNatClampNeg := by rw [hv, nI_4, nI_clamp (by omega), nI_clamp (by omega)]
          refine s_MD_nextOfStep_129 h hw (fun q => no _ fun z => by rw [bI_eq0 q] at z; exact absurd z.1 (by decide)) (fun _ q => absurd q c0) (fun _ _ => by rw [hv, nI_4]; exact mm_inI (by omega) (by omega)) (fun _ _ q => ?_) (fun q1 _ q => ?_)
          · rw [e8] at q
            refine no _ fun z => ?_
            rcases z.2 with z | z
            · exact c0 z
            · exact z q
          · rw [e8] at q
            exact yes _ ⟨bI_ne0 q1, Or.inr q⟩
      have c0 : ¬ f 136 5 ≤ nI r := by rw [hR, nI_leI (by omega) (by omega)]; omega
      have i1 : 4 * nI r + nI d = nI (4 * r + d) := by rw [nI_4, nI_add]
      have i3 : 4 * nI r = nI (4 * r) := nI_4 r
      refine s_MD_nextOfStep_57 h hw (fun q => absurd q c0) (fun q => absurd q c0) (fun q => absurd q c0) (fun q => absurd q c0) (fun _ => by rw [i3]; exact mm_inI (by omega) (by omega)) (fun _ => mm_inI (by omega) (by omega)) (fun _ q => ?_) (fun _ q => by rw [i1]; exact mm_inI (by omega) (by omega)) (fun _ q1 q => ?_) (fun _ _ _ => mm_inI (by omega) (by omega)) (fun _ q1 q2 q => ?_) (fun _ q1 q2 q3 q => ?_) (fun _ q1 q2 q3 q => ?_)
      · rw [e3] at q
        rw [i3, e2, hK]
        refine s_MD_nextOfStep_128 h hw (g129 false ?_)
        rw [hP, decide_eq_false]; exact fun z => q z.1
      · rw [i1, e1] at q
        rw [i3, e2, hK]
        refine s_MD_nextOfStep_128 h hw (g129 false ?_)
        rw [hP, decide_eq_false]; exact fun z => q z.2.1
      · rw [e3] at q1
        rw [i1, e1] at q2
        rw [es] at q
        rw [i3, e2, hK]
        refine s_MD_nextOfStep_124 h hw (g129 true ?_)
        rw [hP, decide_eq_true]; exact ⟨q1, q2, Or.inl q⟩
      · rw [es] at q3
        rw [es, i3, e2, hK] at q
        rw [i3, e2, hK]
        refine s_MD_nextOfStep_128 h hw (g129 false ?_)
        rw [hP, decide_eq_false]
        rintro ⟨_, _, z | z⟩
        · exact q3 z
        · exact z q
      · rw [e3] at q1
        rw [i1, e1] at q2
        rw [es, i3, e2, hK] at q
        rw [i3, e2, hK]
        refine s_MD_nextOfStep_124 h hw (g129 true ?_)
        rw [hP, decide_eq_true]; exact ⟨q1, q2, Or.inr q⟩
  refine s_MD_nextOfStep_0 h hw (mm_inI (by omega) (by omega)) (by rw [es, ha]; exact mm_inI (by omega) (by omega)) (by rw [es, ha, nI_1]; exact mm_inI (by omega) (by omega)) (by rw [es, ha, i2, nI_add]; exact mm_inI (by omega) (by omega)) (by rw [es, ha, i2, nI_add, ea2, hc, nI_8, nI_add]; exact mm_inI (by omega) (by omega)) ?_
  rw [es, ha, i2, nI_add, nI_1, ea, ea1, ea2, hc, hd, ht, nI_8, nI_add, nI_clamp (by omega), hY]
  exact loop R 0 (by omega)
theorem c_MD_passes {r x v : Int32} (hw : mm_sh w) : mm_C E y_MD_passes b_MD_passes 3 (some .boolean) 0 0 0 [.int r, .int x, .int v] w f (mm_P (some (.int (bI (psF r x v)))) w f) := by
  refine mm_start (by decide) rfl (Nat.le_of_ble_eq_true rfl) fun Γ h he => ?_
  have hx : psF r x v = if r = 0 then decide (x < v) else if r = 1 then decide (x ≤ v) else if r = 2 then decide (x = v) else if r = 3 then !decide (x = v) else if r = 4 then decide (v ≤ x) else decide (v < x) := rfl
  refine s_MD_passes_0 h hw (fun c0 => ?_) (fun c0 c1 => ?_) (fun c0 c1 c2 => ?_) (fun c0 c1 c2 c3 => ?_) (fun c0 c1 c2 c3 c4 => ?_) (fun c0 c1 c2 c3 c4 => ?_)
  · rw [if_pos c0] at hx
    refine s_MD_passes_36 h hw (fun q => ?_) (fun q => ?_)
    · exact s_MD_passes_46 h he (Nat.le_refl _) (Nat.le_refl _) hw (by rw [hx, decide_eq_false (Int32.not_lt.mpr q)]; exact mm_Pr) rfl
    · exact s_MD_passes_46 h he (Nat.le_refl _) (Nat.le_refl _) hw (by rw [hx, decide_eq_true (Int32.not_le.mp q)]; exact mm_Pr) rfl
  · rw [if_neg c0, if_pos c1] at hx
    refine s_MD_passes_47 h hw (fun q => ?_) (fun q => ?_)
    · exact s_MD_passes_57 h he (Nat.le_refl _) (Nat.le_refl _) hw (by rw [hx, decide_eq_false (Int32.not_le.mpr q)]; exact mm_Pr) rfl
    · exact s_MD_passes_57 h he (Nat.le_refl _) (Nat.le_refl _) hw (by rw [hx, decide_eq_true (Int32.not_lt.mp q)]; exact mm_Pr) rfl
  · rw [if_neg c0, if_neg c1, if_pos c2] at hx
    refine s_MD_passes_58 h hw (fun q => ?_) (fun q => ?_)
    · exact s_MD_passes_68 h he (Nat.le_refl _) (Nat.le_refl _) hw (by rw [hx, decide_eq_false q]; exact mm_Pr) rfl
    · exact s_MD_passes_68 h he (Nat.le_refl _) (Nat.le_refl _) hw (by rw [hx, decide_eq_true q]; exact mm_Pr) rfl
  · rw [if_neg c0, if_neg c1, if_neg c2, if_pos c3] at hx
    refine s_MD_passes_69 h hw (fun q => ?_) (fun q => ?_)
    · exact s_MD_passes_79 h he (Nat.le_refl _) (Nat.le_refl _) hw (by rw [hx, decide_eq_true q]; exact mm_Pr) rfl
    · exact s_MD_passes_79 h he (Nat.le_refl _) (Nat.le_refl _) hw (by rw [hx, decide_eq_false q]; exact mm_Pr) rfl
  · rw [if_neg c0, if_neg c1, if_neg c2, if_neg c3, if_pos c4] at hx
    refine s_MD_passes_80 h hw (fun q => ?_) (fun q => ?_)
    · exact s_MD_passes_90 h he (Nat.le_refl _) (Nat.le_refl _) hw (by rw [hx, decide_eq_false (Int32.not_le.mpr q)]; exact mm_Pr) rfl
    · exact s_MD_passes_90 h he (Nat.le_refl _) (Nat.le_refl _) hw (by rw [hx, decide_eq_true (Int32.not_lt.mp q)]; exact mm_Pr) rfl
  · rw [if_neg c0, if_neg c1, if_neg c2, if_neg c3, if_neg c4] at hx
    refine s_MD_passes_91 h hw (fun q => ?_) (fun q => ?_)
    · exact s_MD_passes_101 h he (Nat.le_refl _) (Nat.le_refl _) hw (by rw [hx, decide_eq_false (Int32.not_lt.mpr q)]; exact mm_Pr) rfl
    · exact s_MD_passes_101 h he (Nat.le_refl _) (Nat.le_refl _) hw (by rw [hx, decide_eq_true (Int32.not_le.mp q)]; exact mm_Pr) rfl
theorem chL_step (f : mm_F) (s k : Nat) : mm_up (chL f s k) 150 (8 * s + k) (f 146 k) = chL f s (k + 1) := by
  funext a j
  unfold mm_up chL
  by_cases h1 : a = 150 ∧ j = 8 * s + k
  · rw [if_pos h1, if_pos (by omega), show j - 8 * s = k by omega]
  · rw [if_neg h1]
    by_cases h2 : a = 150 ∧ 8 * s ≤ j ∧ j < 8 * s + k
    · rw [if_pos h2, if_pos (by omega)]
    · rw [if_neg h2, if_neg (by omega)]
theorem chL_0 (f : mm_F) (s : Nat) : chL f s 0 = f := by
  funext a j
  unfold chL
  rw [if_neg (by omega)]
theorem chL_off (f : mm_F) {s k a : Nat} (h : ¬ a = 150) : chL f s k a = f a := by
  funext j
  unfold chL
  rw [if_neg (fun z => h z.1)]
theorem chR_off (f : mm_F) {s k a : Nat} (h : ¬ a = 146) : chR f s k a = f a := by
  funext j
  unfold chR
  rw [if_neg (fun z => h z.1)]
theorem chR_0 (f : mm_F) (s : Nat) : chR f s 0 = f := by
  funext a j
  unfold chR
  rw [if_neg (by omega)]
theorem chR_step (f : mm_F) (s k : Nat) : mm_up (chR f s k) 146 k (f 150 (8 * s + (pw f s (1 + k)).toNatClampNeg)) = chR f s (k + 1) := by
  funext a j
  unfold mm_up chR
  by_cases h1 : a = 146 ∧ j = k
  · rw [if_pos h1, if_pos (by omega), h1.2]
  · rw [if_neg h1]
    by_cases h2 : a = 146 ∧ j < k
    · rw [if_pos h2, if_pos (by omega)]
    · rw [if_neg h2, if_neg (by omega)]
theorem pw_of {g : mm_F} {k : Nat} (h1 : g 144 = f 144) (h2 : g 142 = f 142) : pw g s k = pw f s k := by
  unfold pw pA
  rw [h1, h2]
theorem c_MD_choose {a k : Nat} (hw : mm_sh w) (hs : s < 40) (ha : f 144 s = nI a) (hk : f 142 a = nI k) (hk2 : k ≤ 8) (hak : a + k < 40) (hc : ∀ i, i < k → ∃ c, c < 8 ∧ f 142 (a + 1 + i) = nI c) : mm_C E y_MD_choose b_MD_choose 4 none 0 0 0 [mm_rf E 136, .int (nI s)] w f (mm_P none w (chF f s)) := by
  refine mm_start (by decide) rfl (Nat.le_of_ble_eq_true rfl) fun Γ h he => ?_
  have i8 : (8 : Int32) = nI 8 := rfl
  have es : (nI s).toNatClampNeg = s := nI_clamp (by omega)
  have ea : (nI a).toNatClampNeg = a := nI_clamp (by omega)
  have pa : pA f s = a := by unfold pA; rw [ha, ea]
  have p0 : pw f s 0 = nI k := by unfold pw; rw [pa]; exact hk
  have hx : chF f s = mm_up (chR (chL f s 8) s (pw f s 0).toNatClampNeg) 136 20 (pw f s 0) := rfl
  rw [p0, nI_clamp (by omega)] at hx
  have loop2 : ∀ d j, j + d = k → mm_go E Γ 4 45 [(0, mm_rf E 136), (1, .int (nI s)), (2, .int (nI k)), (3, .int (nI j))] [] w (chR (chL f s 8) s j) 0 0 := by
    intro d
    induction d with
    | zero =>
      intro j hj
      have : j = k := by omega
      subst this
      refine s_MD_choose_45 h he (Nat.le_refl _) (Nat.le_refl _) hw (fun _ => by rw [hx]; exact mm_Pr) (fun q => ?_) (fun q => ?_) (fun q => ?_) (fun q => ?_) (fun q => ?_)
      all_goals exact absurd (Int32.le_refl _) q
    | succ d ih =>
      intro j hj
      have g144 : (chR (chL f s 8) s j) 144 = f 144 := by rw [chR_off _ (by omega), chL_off _ (by omega)]
      have g142 : (chR (chL f s 8) s j) 142 = f 142 := by rw [chR_off _ (by omega), chL_off _ (by omega)]
      have g150 : (chR (chL f s 8) s j) 150 = (chL f s 8) 150 := by rw [chR_off _ (by omega)]
      obtain ⟨c, c1, c2⟩ := hc j (by omega)
      have ei : nI a + 1 + nI j = nI (a + 1 + j) := by rw [nI_1, nI_add]
      have ej : (nI j).toNatClampNeg = j := nI_clamp (by omega)
      have eq : (nI (a + 1 + j)).toNatClampNeg = a + 1 + j := nI_clamp (by omega)
      refine s_MD_choose_45 h he (Nat.le_refl _) (Nat.le_refl _) hw (fun q => ?_) (fun _ => mm_inI (by omega) (by omega)) (fun _ => ?_) (fun _ => ?_) (fun _ => mm_inI (by omega) (by omega)) (fun _ => ?_)
      · rw [nI_leI (by omega) (by omega)] at q; omega
      · rw [g144, es, ha, ei]; exact mm_inI (by omega) (by omega)
      · rw [g144, es, ha, ei, g142, eq, c2, nI_8, nI_add]; exact mm_inI (by omega) (by omega)
      · rw [g144, es, ha, ei, g142, eq, c2, nI_8, nI_add, nI_1, ej, nI_clamp (by omega), g150]
        have e := chR_step (chL f s 8) s j
        rw [pw_of (f := f) (chL_off _ (by omega)) (chL_off _ (by omega))] at e
        have p1 : pw f s (1 + j) = nI c := by unfold pw; rw [pa, ← Nat.add_assoc]; exact c2
        rw [p1, nI_clamp (by omega)] at e
        rw [e]
        exact ih (j + 1) (by omega)
  have loop1 : ∀ d j, j + d = 8 → mm_go E Γ 4 14 [(0, mm_rf E 136), (1, .int (nI s)), (2, .int (nI k)), (3, .int (nI j))] [] w (chL f s j) 0 0 := by
    intro d
    induction d with
    | zero =>
      intro j hj
      have : j = 8 := by omega
      subst this
      refine s_MD_choose_14 h hw (fun _ => ?_) (fun q => ?_) (fun q => ?_) (fun q => ?_)
      · have := loop2 k 0 (by omega)
        rw [chR_0] at this
        exact this
      all_goals exact absurd (Int32.le_refl _) q
    | succ d ih =>
      intro j hj
      have ej : (nI j).toNatClampNeg = j := nI_clamp (by omega)
      refine s_MD_choose_14 h hw (fun q => ?_) (fun _ => mm_inI (by omega) (by omega)) (fun _ => ?_) (fun _ => ?_)
      · rw [i8, nI_leI (by omega) (by omega)] at q; omega
      · rw [nI_8, nI_add]; exact mm_inI (by omega) (by omega)
      · rw [nI_8, nI_add, nI_1, ej, nI_clamp (by omega), chL_off _ (show ¬ 146 = 150 by omega), chL_step]
        exact ih (j + 1) (by omega)
  refine s_MD_choose_0 h hw (mm_inI (by omega) (by omega)) (by rw [es, ha]; exact mm_inI (by omega) (by omega)) ?_
  rw [es, ha, ea, hk]
  have := loop1 8 0 (by omega)
  rw [chL_0] at this
  exact this
theorem c_MD_hold {v : Nat} (hw : mm_sh w) (hs : s < 40) (hv : v ≤ 8) : mm_C E y_MD_hold b_MD_hold 4 none 0 0 0 [mm_rf E 136, .int (nI s), .int (nI v)] w f (mm_P none w (hoF f s v)) := by
  refine mm_start (by decide) rfl (Nat.le_of_ble_eq_true rfl) fun Γ h he => ?_
  have es : (nI s).toNatClampNeg = s := nI_clamp (by omega)
  have loop : ∀ d j, j + d = v → mm_go E Γ 4 2 [(0, mm_rf E 136), (1, .int (nI s)), (2, .int (nI v)), (3, .int (nI j))] [] w (chL f s j) 0 0 := by
    intro d
    induction d with
    | zero =>
      intro j hj
      have : j = v := by omega
      subst this
      refine s_MD_hold_2 h he (Nat.le_refl _) (Nat.le_refl _) hw (fun _ => mm_inI (by omega) (by omega)) (fun _ => by rw [es]; exact mm_Pr) (fun q => ?_) (fun q => ?_) (fun q => ?_)
      all_goals exact absurd (Int32.le_refl _) q
    | succ d ih =>
      intro j hj
      have ej : (nI j).toNatClampNeg = j := nI_clamp (by omega)
      refine s_MD_hold_2 h he (Nat.le_refl _) (Nat.le_refl _) hw (fun q => ?_) (fun q => ?_) (fun _ => mm_inI (by omega) (by omega)) (fun _ => ?_) (fun _ => ?_)
      · rw [nI_leI (by omega) (by omega)] at q; omega
      · rw [nI_leI (by omega) (by omega)] at q; omega
      · rw [nI_8, nI_add]; exact mm_inI (by omega) (by omega)
      · rw [nI_8, nI_add, nI_1, ej, nI_clamp (by omega), chL_off _ (show ¬ 146 = 150 by omega), chL_step]
        exact ih (j + 1) (by omega)
  refine s_MD_hold_0 h hw ?_
  have := loop v 0 (by omega)
  rw [chL_0] at this
  exact this
theorem c_MD_runEnds {a c : Nat} (hw : mm_sh w) (hs : s < 40) (ha : f 144 s = nI a) (ha2 : a < 40) (hc : f 142 a = nI c) (hc2 : c < 8) : mm_C E y_MD_runEnds b_MD_runEnds 4 (some .boolean) 0 0 0 [mm_rf E 136, .int (nI s)] w f (mm_P (some (.int (rnF f s).2)) w (rnF f s).1) := by
  refine mm_start (by decide) rfl (Nat.le_of_ble_eq_true rfl) fun Γ h he => ?_
  have es : (nI s).toNatClampNeg = s := nI_clamp (by omega)
  have ea : (nI a).toNatClampNeg = a := nI_clamp (by omega)
  have ec : (nI c).toNatClampNeg = c := nI_clamp (by omega)
  have pa : pA f s = a := by unfold pA; rw [ha, ea]
  have p0 : (pw f s 0).toNatClampNeg = c := by unfold pw; rw [pa]; show (f 142 a).toNatClampNeg = c; rw [hc, ec]
  have hx : rnF f s = if ¬ f 149 s = 0 ∧ ¬ f 148 s = f 146 (pw f s 0).toNatClampNeg then
    (mm_up (mm_up (mm_up (mm_up (mm_up (mm_up f 146 0 (f 148 s)) 146 1 (f 147 s)) 136 20 2) 147 s 1) 148 s (f 146 (pw f s 0).toNatClampNeg)) 149 s 1, 1)
    else (mm_up (mm_up (mm_up f 147 s (if f 149 s = 0 then 1 else f 147 s + 1)) 148 s (f 146 (pw f s 0).toNatClampNeg)) 149 s 1, 0) := rfl
  rw [p0] at hx
  have noEnd : ¬ (¬ f 149 s = 0 ∧ ¬ f 148 s = f 146 c) → mm_go E Γ 4 40 [(0, mm_rf E 136), (1, .int (nI s)), (2, .int (f 146 c))] [] w f 0 0 := fun q => by
    rw [if_neg q] at hx
    refine s_MD_runEnds_40 h hw (s_MD_runEnds_41 h hw (fun _ => ?_) (fun z => absurd rfl z) (fun z => absurd rfl z))
    refine s_MD_runEnds_75 h hw (mm_inI (by omega) (by omega)) (fun c1 => ?_) (fun c1 c2 => absurd rfl c2) (fun c1 c2 => ?_)
    · rw [es] at c1
      rw [if_pos c1] at hx
      refine s_MD_runEnds_104 h hw (s_MD_runEnds_105 h he (Nat.le_refl _) (Nat.le_refl _) hw (mm_inI (by omega) (by omega)) (mm_inI (by omega) (by omega)) ?_ rfl)
      rw [es, hx]; exact mm_Pr
    · rw [es] at c1 ⊢
      rw [if_neg c1] at hx
      refine s_MD_runEnds_105 h he (Nat.le_refl _) (Nat.le_refl _) hw (mm_inI (by omega) (by omega)) (mm_inI (by omega) (by omega)) ?_ rfl
      rw [es, hx]; exact mm_Pr
  refine s_MD_runEnds_0 h hw (mm_inI (by omega) (by omega)) (by rw [es, ha]; exact mm_inI (by omega) (by omega)) (by rw [es, ha, ea, hc]; exact mm_inI (by omega) (by omega)) (fun c1 => ?_) (fun c1 c2 => ?_) (fun c1 c2 => ?_)
  · rw [es] at c1
    rw [es, ha, ea, hc, ec]
    exact noEnd fun z => z.1 c1
  · rw [es, ha, ea, hc, ec] at c2
    rw [es, ha, ea, hc, ec]
    exact noEnd fun z => z.2 c2
  · rw [es, ha, ea, hc, ec] at c2
    rw [es] at c1
    rw [es, ha, ea, hc, ec]
    rw [if_pos ⟨c1, c2⟩] at hx
    refine s_MD_runEnds_41 h hw (fun z => absurd z (by decide)) (fun _ => mm_inI (by omega) (by omega)) (fun _ => ?_)
    rw [es, mm_up_ne (c := 147) _ _ (by omega)]
    have g9 : (mm_up (mm_up (mm_up f 146 0 (f 148 s)) 146 1 (f 147 s)) 136 20 2) 149 s = f 149 s := by rw [mm_up_ne _ _ (by omega), mm_up_ne _ _ (by omega), mm_up_ne _ _ (by omega)]
    refine s_MD_runEnds_75 h hw (mm_inI (by omega) (by omega)) (fun z => ?_) (fun _ _ => ?_) (fun _ z => absurd z (by decide))
    · rw [es, g9] at z; exact absurd z c1
    · refine s_MD_runEnds_104 h hw (s_MD_runEnds_105 h he (Nat.le_refl _) (Nat.le_refl _) hw (mm_inI (by omega) (by omega)) (mm_inI (by omega) (by omega)) ?_ rfl)
      rw [es, hx]; exact mm_Pr
theorem loL_step (f : mm_F) (r fr k : Nat) : mm_up (loL f r fr k) 146 (fr + k) (f 141 (4 * r + k)) = loL f r fr (k + 1) := by
  funext a j
  unfold mm_up loL
  by_cases h1 : a = 146 ∧ j = fr + k
  · rw [if_pos h1, if_pos (by omega), show j - fr = k by omega]
  · rw [if_neg h1]
    by_cases h2 : a = 146 ∧ fr ≤ j ∧ j < fr + k
    · rw [if_pos h2, if_pos (by omega)]
    · rw [if_neg h2, if_neg (by omega)]
theorem loL_0 (f : mm_F) (r fr : Nat) : loL f r fr 0 = f := by
  funext a j
  unfold loL
  rw [if_neg (by omega)]
theorem loL_off (f : mm_F) {r fr k a : Nat} (h : ¬ a = 146) : loL f r fr k a = f a := by
  funext j
  unfold loL
  rw [if_neg (fun z => h z.1)]
theorem c_MD_load {r fr k : Nat} (hw : mm_sh w) (hr : r < 48) (hk : k ≤ 4) (hf : fr + k ≤ 8) : mm_C E y_MD_load b_MD_load 5 none 0 0 0 [mm_rf E 136, .int (nI r), .int (nI fr), .int (nI k)] w f (mm_P none w (loF f r fr k)) := by
  refine mm_start (by decide) rfl (Nat.le_of_ble_eq_true rfl) fun Γ h he => ?_
  have loop : ∀ d j, j + d = k → mm_go E Γ 5 3 [(0, mm_rf E 136), (1, .int (nI r)), (2, .int (nI fr)), (3, .int (nI k)), (4, .int (nI j))] [] w (loL f r fr j) 0 0 := by
    intro d
    induction d with
    | zero =>
      intro j hj
      have : j = k := by omega
      subst this
      refine s_MD_load_3 h he (Nat.le_refl _) (Nat.le_refl _) hw (fun _ => by rw [nI_add]; exact mm_Pr) (fun q => ?_) (fun q => ?_) (fun q => ?_)
      all_goals exact absurd (Int32.le_refl _) q
    | succ d ih =>
      intro j hj
      refine s_MD_load_3 h he (Nat.le_refl _) (Nat.le_refl _) hw (fun q => ?_) (fun _ => ?_) (fun _ => ?_) (fun _ => ?_)
      · rw [nI_leI (by omega) (by omega)] at q; omega
      · rw [nI_4, nI_add]; exact mm_inI (by omega) (by omega)
      · rw [nI_add]; exact mm_inI (by omega) (by omega)
      · rw [nI_4, nI_add, nI_add, nI_1, nI_clamp (by omega), nI_clamp (by omega), loL_off _ (show ¬ 141 = 146 by omega), loL_step]
        exact ih (j + 1) (by omega)
  refine s_MD_load_0 h hw ?_
  have := loop k 0 (by omega)
  rw [loL_0] at this
  exact this
theorem c_MD_waiting {x : Int32} {b n : Nat} (hw : mm_sh w) (hn : f 136 10 = nI n) (hn2 : n ≤ 39) (hb : x + 1 = nI b) (hb2 : b ≤ 40) : mm_C E y_MD_waiting b_MD_waiting 4 (some .int) 0 0 0 [mm_rf E 136, .int x] w f (mm_P (some (.int (wtF f b n))) w f) := by
  refine mm_start (by decide) rfl (Nat.le_of_ble_eq_true rfl) fun Γ h he => ?_
  have loop : ∀ d k, k + d = n - b → mm_go E Γ 4 6 [(0, mm_rf E 136), (1, .int x), (2, .int (lsF (fun s => decide (f 143 s = 5 ∧ ¬ f 149 s = 0)) b k)), (3, .int (nI (b + k)))] [] w f 0 0 := by
    intro d
    induction d with
    | zero =>
      intro k hk
      have : k = n - b := by omega
      subst this
      refine s_MD_waiting_6 h he (Nat.le_refl _) (Nat.le_refl _) hw (fun _ => mm_Pr) (fun q => ?_) (fun q => ?_) (fun q => ?_) (fun q => ?_)
      all_goals (rw [hn, nI_leI (by omega) (by omega)] at q; omega)
    | succ d ih =>
      intro k hk
      have ek : (nI (b + k)).toNatClampNeg = b + k := nI_clamp (by omega)
      have hs : lsF (fun s => decide (f 143 s = 5 ∧ ¬ f 149 s = 0)) b (k + 1) = if decide (f 143 (b + k) = 5 ∧ ¬ f 149 (b + k) = 0) = true then nI (b + k) else lsF (fun s => decide (f 143 s = 5 ∧ ¬ f 149 s = 0)) b k := rfl
      have ih1 := ih (k + 1) (by omega)
      have no : ¬ (f 143 (b + k) = 5 ∧ ¬ f 149 (b + k) = 0) → mm_go E Γ 4 37 [(0, mm_rf E 136), (1, .int x), (2, .int (lsF (fun s => decide (f 143 s = 5 ∧ ¬ f 149 s = 0)) b k)), (3, .int (nI (b + k)))] [] w f 0 0 := fun q => by
        rw [decide_eq_false q, if_neg (by decide)] at hs
        refine s_MD_waiting_37 h hw (s_MD_waiting_38 h hw ?_)
        rw [nI_1, ← hs]; exact ih1
      refine s_MD_waiting_6 h he (Nat.le_refl _) (Nat.le_refl _) hw (fun q => ?_) (fun _ => mm_inI (by omega) (by omega)) (fun _ q => ?_) (fun _ q1 q => ?_) (fun _ q1 q => ?_)
      · rw [hn, nI_leI (by omega) (by omega)] at q; omega
      · rw [ek] at q; exact no fun z => q z.1
      · rw [ek] at q; exact no fun z => z.2 q
      · rw [ek] at q1 q
        rw [decide_eq_true ⟨q1, q⟩, if_pos rfl] at hs
        refine s_MD_waiting_38 h hw ?_
        rw [nI_1, ← hs]; exact ih1
  refine s_MD_waiting_0 h hw ?_
  rw [hb]
  exact loop (n - b) 0 (by omega)
theorem c_MD_satisfied {x : Int32} {b n : Nat} (hw : mm_sh w) (hn : f 136 10 = nI n) (hn2 : n ≤ 39) (hb : x + 1 = nI b) (hb2 : b ≤ 40) (hp : ∀ s, 0 < s → s < n → f 143 s = 7 → ∃ a, a < 40 ∧ f 144 s = nI a) : mm_C E y_MD_satisfied b_MD_satisfied 4 (some .int) 0 0 0 [mm_rf E 136, .int x] w f (mm_P (some (.int (sfF f b n))) w f) := by
  refine mm_start (by decide) rfl (Nat.le_of_ble_eq_true rfl) fun Γ h he => ?_
  have hF : sfF f b n = lsF (fun s => decide (0 < s ∧ f 143 s = 7 ∧ f 147 s = pw f s 0)) b (n - b) := rfl
  generalize hPd : (fun s => decide (0 < s ∧ f 143 s = 7 ∧ f 147 s = pw f s 0)) = P at hF
  have loop : ∀ d k, k + d = n - b → mm_go E Γ 4 6 [(0, mm_rf E 136), (1, .int x), (2, .int (lsF P b k)), (3, .int (nI (b + k)))] [] w f 0 0 := by
    intro d
    induction d with
    | zero =>
      intro k hk
      have : k = n - b := by omega
      subst this
      refine s_MD_satisfied_6 h he (Nat.le_refl _) (Nat.le_refl _) hw (fun _ => by rw [hF]; exact mm_Pr) (fun q => ?_) (fun q => ?_) (fun q => ?_) (fun q => ?_) (fun q => ?_) (fun q => ?_)
      all_goals (rw [hn, nI_leI (by omega) (by omega)] at q; omega)
    | succ d ih =>
      intro k hk
      have ek : (nI (b + k)).toNatClampNeg = b + k := nI_clamp (by omega)
      have hP : P (b + k) = decide (0 < b + k ∧ f 143 (b + k) = 7 ∧ f 147 (b + k) = pw f (b + k) 0) := by rw [← hPd]
      have hs : lsF P b (k + 1) = if P (b + k) = true then nI (b + k) else lsF P b k := rfl
      rw [hP] at hs
      have ih1 := ih (k + 1) (by omega)
      have no : ¬ (0 < b + k ∧ f 143 (b + k) = 7 ∧ f 147 (b + k) = pw f (b + k) 0) → mm_go E Γ 4 53 [(0, mm_rf E 136), (1, .int x), (2, .int (lsF P b k)), (3, .int (nI (b + k)))] [] w f 0 0 := fun q => by
        rw [decide_eq_false q, if_neg (by decide)] at hs
        refine s_MD_satisfied_53 h hw (s_MD_satisfied_54 h hw ?_)
        rw [nI_1, ← hs]; exact ih1
      have pos : ¬ nI (b + k) ≤ 0 → 0 < b + k := fun q => by
        rcases Nat.eq_zero_or_pos (b + k) with z | z
        · rw [z] at q; exact absurd (by decide) q
        · exact z
      have pw0 : ∀ a, f 144 (b + k) = nI a → a < 40 → pw f (b + k) 0 = f 142 a := fun a h1 h2 => by
        unfold pw pA
        rw [h1, nI_clamp (by omega)]; rfl
      refine s_MD_satisfied_6 h he (Nat.le_refl _) (Nat.le_refl _) hw (fun q => ?_) (fun _ q => ?_) (fun _ q => mm_inI (by omega) (by omega)) (fun _ q1 q => ?_) (fun _ q1 q => ?_) (fun _ q1 q2 q => ?_) (fun _ q1 q2 q => ?_)
      · rw [hn, nI_leI (by omega) (by omega)] at q; omega
      · exact no fun z => absurd q (nI_nle z.1 (by omega))
      · rw [ek] at q; exact no fun z => q z.2.1
      · rw [ek] at q
        obtain ⟨a, a1, a2⟩ := hp (b + k) (pos q1) (by omega) q
        rw [ek, a2]; exact mm_inI (by omega) (by omega)
      · rw [ek] at q2 q
        obtain ⟨a, a1, a2⟩ := hp (b + k) (pos q1) (by omega) q2
        rw [a2, nI_clamp (by omega)] at q
        exact no fun z => q (by rw [← pw0 a a2 a1]; exact z.2.2)
      · rw [ek] at q2 q
        obtain ⟨a, a1, a2⟩ := hp (b + k) (pos q1) (by omega) q2
        rw [a2, nI_clamp (by omega)] at q
        rw [decide_eq_true ⟨pos q1, q2, by rw [pw0 a a2 a1]; exact q⟩, if_pos rfl] at hs
        refine s_MD_satisfied_54 h hw ?_
        rw [nI_1, ← hs]; exact ih1
  refine s_MD_satisfied_0 h hw ?_
  rw [hb]
  exact loop (n - b) 0 (by omega)
end CMD6
