/-! The law: the run on both sides; the calls that never throw. -/
section LR
variable {E : mm_E} {w : mm_W} {f : mm_F} {m R W : Nat} {n cl : Nat → Nat}
theorem lb_run (hfl : E.1.flags = flags0) (hw : mm_sh w) (hv : Iv f m R W n cl) (x : Int32) : ∃ P, mm_CW E y_LW_run b_LW_run 4 (some .int) [(0, 9, 12, 13), (0, 9, 15, 26), (0, 9, 18, 15)] 7 3 20 [mm_rf E 1, .int x, mm_rf E 152] w f P ∧ lw_B E y_MD_run b_MD_run 2 .int 5 [.int x] Int32.toInt64 P := by
  have h0 := hw.1
  by_cases hb : ¬ (ltF (fE f)) 53 2 = -1 ∨ x < 0
  · refine ⟨_, w_run_1 hfl hw (c_PT_run_1 hfl hw hv hb) (by omega) (by omega) (by omega) (sh_n hw), ?_⟩
    rintro _ _ _ ⟨rfl, rfl, rfl⟩
    obtain ⟨a1, a2, a3, a4⟩ := run_bad (gB := mm_f0 w (ltF (fE f))) hv rfl hb (f0_far hw)
    exact ⟨1, 0, _, rfl, sh_new hw, c_MD_run_bad (sh_new hw) a1 a2, a3, fun q => absurd q (by decide), a4⟩
  · have hok : (ltF (fE f)) 53 2 = -1 := Classical.byContradiction fun z => hb (Or.inl z)
    obtain ⟨F, hF, rfl⟩ := nI_of (fun z => hb (Or.inr z))
    clear hb
    obtain ⟨A1, A2, A3⟩ := fA_at (f := ltF (fE f)) (x := nI F) hw
    have lf : ∀ a j, ¬ (a = 53 ∧ (j = 2 ∨ j = 3 ∨ j = 4 ∨ j = 6)) → ¬ (56 ≤ a ∧ a < 134 ∧ j ≤ 2) → ltF (fE f) a j = fE f a j := ltF_fr (fE f)
    have e1 : ∀ a, ¬ a = 134 → fE f a = f a := fun a ha => by unfold fE; rw [mm_up_off _ _ ha, mm_up_off _ _ ha]
    have o1 : fA w (ltF (fE f)) (nI F) 134 1 = 0 := by
      rw [A1 134 (by omega), lf 134 1 (by omega) (by omega)]
      unfold fE; rw [mm_up_ne _ _ (by omega), mm_up_eq]
    have o2 : fA w (ltF (fE f)) (nI F) 134 2 = 0 := by
      rw [A1 134 (by omega), lf 134 2 (by omega) (by omega)]
      unfold fE; rw [mm_up_eq]
    have hA : ∀ x, x < 134 → fA w (ltF (fE f)) (nI F) x = (ltF (fE f)) x := fun x hx => A1 x (by omega)
    obtain ⟨N, r, fc, I, i1, i2, iN, i3, i4, i5, i6, i7, hr, hu⟩ := run_class (n := mm_n w) hv rfl hok hA o1 o2 h0 A2 A3 hF
    have hmid : ∀ {Γ : mm_G} {kc ks : Nat}, mm_ok E Γ b_PT_run 4 "PlannedTables" 6 kc ks → 2 ≤ kc → 14 ≤ ks → mm_go E Γ 4 68 [(0, mm_rf E 1), (1, .int (nI F)), (2, mm_rf E (mm_n w))] [.int r] (wA w) fc 2 14 → mm_go E Γ 4 18 [(0, mm_rf E 1), (1, .int (nI F))] [] w (ltF (fE f)) 0 0 := fun h hkc hks k => run_mid hw hv h hkc hks hF hok I i1 i2 i3 i4 i5 i6 i7 k
    have hc : ∀ x j, (x < 53 ∨ x = 54 ∨ (136 ≤ x ∧ x ≤ 152) ∨ x = 53 ∧ j = 1) → fc x j = f x j := fun x j q => by
      rw [hu x j (by omega), itB_fr _ N x j (by omega), A1 x (by omega), lf x j (by omega) (by omega), e1 x (by omega)]
    have hw' := wA_sh hw
    rcases hr with rfl | hr
    · have g1 : ∀ a, ¬ a = 1 → mm_up fc 1 4 (fc (mm_n w) 4) a = fc a := fun a ha => mm_up_off _ _ ha
      obtain ⟨b1, b2, b3, b4, b5, K, z, b6, b7, b8, -, -⟩ := run_ref (n := mm_n w) (gB := mm_up fc 1 4 (fc (mm_n w) 4)) hv rfl hok hA o1 o2 h0 A2 A3 hF i2 iN i7
        (fun a ha hne => by rw [g1 a hne]; exact funext fun j => hc a j (by omega)) (fun a h1 h2 => by rw [g1 a (by omega)]; exact funext fun j => hc a j (by omega)) (by rw [g1 53 (by omega)]; exact hc 53 1 (by omega)) (by rw [g1 54 (by omega)]; exact funext fun j => hc 54 j (by omega))
      obtain ⟨c1, c2, c3⟩ := b8 rfl
      exact ⟨_, w_run_0 hfl hw (c_PT_run_2 (N := N) hw hv hF hmid) (by omega) (by omega) (by omega) (ok_P hw'), lb_k (F := r1F z) hw' (fun y => c_MD_run_ok (sh_sj hw') b1 b2 (nI_pos' hF) b3 b4 b5 b6 b7) c1 c2 (c3 (mm_up_eq _ _ _ _) (by rw [g1 134 (by omega)]) (by rw [g1 135 (by omega)]))⟩
    · have hcc : ∀ kk, r = 3 ∧ kk = 11 ∨ r = 4 ∧ kk = 9 → mm_T E y_PT_run b_PT_run 4 (some .int) 6 3 20 [mm_rf E 1, .int (nI F)] w f kk (wA w) (fE fc) := fun kk hkk => c_PT_run_34 (N := N) hfl hw hv hF hkk hmid
      have g0 : ∀ a, a < 153 → ¬ a = 134 → mm_f0 (wA w) (fE fc) a = fc a := fun a ha hne => by
        rw [f0_far hw' a ha]; unfold fE; rw [mm_up_off _ _ hne, mm_up_off _ _ hne]
      obtain ⟨b1, b2, b3, b4, b5, K, z, b6, b7, -, b9, b10⟩ := run_ref (n := mm_n w) (gB := mm_f0 (wA w) (fE fc)) hv rfl hok hA o1 o2 h0 A2 A3 hF i2 iN i7
        (fun a ha hne => by rw [g0 a (by omega) (by omega)]; exact funext fun j => hc a j (by omega)) (fun a h1 h2 => by rw [g0 a (by omega) (by omega)]; exact funext fun j => hc a j (by omega)) (by rw [g0 53 (by omega) (by omega)]; exact hc 53 1 (by omega)) (by rw [g0 54 (by omega) (by omega)]; exact funext fun j => hc 54 j (by omega))
      have v1 : mm_f0 (wA w) (fE fc) 1 4 = f 1 4 := by rw [g0 1 (by omega) (by omega)]; exact hc 1 4 (by omega)
      have v2 : mm_f0 (wA w) (fE fc) 134 1 = 0 := by
        rw [f0_far hw' 134 (by omega)]; unfold fE; rw [mm_up_ne _ _ (by omega), mm_up_eq]
      rcases hr with hr | hr
      · obtain ⟨c1, c2⟩ := b9 hr
        refine ⟨_, w_run_2 hfl hw (hcc 11 (Or.inl ⟨hr, rfl⟩)) (by omega) (by omega) (by omega) (sh_n hw'), ?_⟩
        rintro _ _ _ ⟨rfl, rfl, rfl⟩
        exact ⟨2, _, _, rfl, sh_new hw', c_MD_run_ok (sh_new hw') b1 b2 (nI_pos' hF) b3 b4 b5 b6 b7, c1, fun q => absurd q (by decide), c2 v1 v2⟩
      · obtain ⟨c1, c2⟩ := b10 hr
        refine ⟨_, w_run_3 hfl hw (hcc 9 (Or.inr ⟨hr, rfl⟩)) (by omega) (by omega) (by omega) (sh_n hw'), ?_⟩
        rintro _ _ _ ⟨rfl, rfl, rfl⟩
        exact ⟨3, _, _, rfl, sh_new hw', c_MD_run_ok (sh_new hw') b1 b2 (nI_pos' hF) b3 b4 b5 b6 b7, c1, fun q => absurd q (by decide), c2 v1 v2⟩
end LR
