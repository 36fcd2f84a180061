/-! Contracts of the reference: reading the steps of a plan. -/
section CMD4
variable {E : mm_E} {w : mm_W} {f : mm_F} {W m p : Nat} {cl : Nat → Nat}
theorem c_MD_readCells (hw : mm_sh w) (hf : Mk f W m cl) (hp : p ≤ 60) : mm_C E y_MD_readCells b_MD_readCells 4 (some .int) 1 0 0 [mm_rf E 136, .int (nI p)] w f (mm_P (some (.int (nI (rcF f W p).2))) w (rcF f W p).1) := by
  refine mm_start (by decide) rfl (Nat.le_of_ble_eq_true rfl) fun Γ h he => ?_
  have hW2 := hf.hW2
  have hx : rcF f W p = if (dm f W p (btw 1 8 (wd f W p))) 136 11 < 0 then (mm_up (rcL W p (wd f W p).toNatClampNeg (dm f W p (btw 1 8 (wd f W p)))) 136 15 (wd f W p), p + (wd f W p).toNatClampNeg + 1) else (dm f W p (btw 1 8 (wd f W p)), p) := rfl
  refine s_MD_readCells_0 (vl0 := 0) (vc0 := 0) (vs0 := 0) h hw (by omega) (by omega) (by omega) (c_MD_wordAt hw hf (by omega)) ?_
  rintro _ _ _ ⟨rfl, rfl, rfl⟩
  have go24 : ∀ b : Bool, b = btw 1 8 (wd f W p) → mm_go E Γ 4 24 [(0, mm_rf E 136), (1, .int (nI p)), (2, .int (wd f W p))] [.int (bI b), .int (nI p), mm_rf E 136] w f 0 0 := by
    intro b hb
    refine s_MD_readCells_24 (vl0 := 0) (vc0 := 0) (vs0 := 0) h hw (by omega) (by omega) (by omega) (c_MD_demand hw hf (by omega)) ?_
    rw [hb]
    rintro _ _ _ ⟨rfl, rfl, rfl⟩
    refine s_MD_readCells_27 h he (Nat.le_refl _) (Nat.le_refl _) hw (fun c1 => ?_) (fun c1 => ?_)
    · obtain ⟨n, n1, n2, en⟩ := wd_le (by omega) hW2 c1
      rw [if_pos c1, en, nI_clamp (by omega)] at hx
      have hf1 := hf.ofi (dm_fr f W p (btw 1 8 (wd f W p)))
      rw [en] at hf1 ⊢
      generalize dm f W p (btw 1 8 (nI n)) = g at hx hf1
      have loop : ∀ d k, k + d = n → mm_go E Γ 4 38 [(0, mm_rf E 136), (1, .int (nI p)), (2, .int (nI n)), (3, .int (nI (k + 1)))] [] w (rcL W p k g) 0 0 := by
        intro d
        induction d with
        | zero =>
          intro k hk
          have hk' : k = n := by omega
          subst hk'
          refine s_MD_readCells_38 (vl0 := 0) (vc0 := 0) (vs0 := 0) (P0 := fun _ _ _ => False) h he (Nat.le_refl _) (Nat.le_refl _) hw (fun _ => ?_) (by omega) (by omega) (by omega) (fun q => ?_) (fun q => ?_)
          · rw [hx, nI_add, nI_1]; exact mm_Pr
          all_goals (rw [nI_ltI (by omega) (by omega)] at q; omega)
        | succ d ih =>
          intro k hk
          have hf2 := hf1.ofi (rcL_fr W p k g)
          refine s_MD_readCells_38 (vl0 := 0) (vc0 := 0) (vs0 := 0) h he (Nat.le_refl _) (Nat.le_refl _) hw (fun q => ?_) (by omega) (by omega) (by omega) (fun _ => by rw [nI_add]; exact c_MD_wordAt hw hf2 (by omega)) (fun _ => ?_)
          · rw [nI_ltI (by omega) (by omega)] at q; omega
          rintro _ _ _ ⟨rfl, rfl, rfl⟩
          refine s_MD_readCells_55 (vl0 := 0) (vc0 := 0) (vs0 := 0) h hw (by omega) (by omega) (by omega) (c_MD_isCell hw) ?_
          rintro _ _ _ ⟨rfl, rfl, rfl⟩
          rw [nI_add]
          refine s_MD_readCells_58 (vl0 := 0) (vc0 := 0) (vs0 := 0) h hw (by omega) (by omega) (by omega) (c_MD_demand hw hf2 (by omega)) ?_
          rintro _ _ _ ⟨rfl, rfl, rfl⟩
          refine s_MD_readCells_61 h hw ?_
          rw [nI_1]
          exact ih (k + 1) (by omega)
      exact loop n 0 (by omega)
    · rw [if_neg c1] at hx
      rw [hx]; exact mm_Pr
  refine s_MD_readCells_5 h hw (fun c1 => ?_) (fun c1 c2 => ?_) (fun c1 c2 => ?_)
  · exact s_MD_readCells_23 h hw (go24 false (by unfold btw; rw [decide_eq_false]; exact fun z => z.1 c1))
  · exact s_MD_readCells_23 h hw (go24 false (by unfold btw; rw [decide_eq_false]; exact fun z => z.2 c2))
  · exact go24 true (by unfold btw; rw [decide_eq_true]; exact ⟨c1, c2⟩)
theorem c_MD_readJoin (hw : mm_sh w) (hf : Mk f W m cl) (hp : p ≤ 60) : mm_C E y_MD_readJoin b_MD_readJoin 4 (some .int) 1 0 0 [mm_rf E 136, .int (nI p)] w f (mm_P (some (.int (nI (rjF f W m cl p).2))) w (rjF f W m cl p).1) := by
  refine mm_start (by decide) rfl (Nat.le_of_ble_eq_true rfl) fun Γ h he => ?_
  have hW2 := hf.hW2
  have hm2 := hf.hm2
  have i2 : (2 : Int32) = nI 2 := rfl
  have i3 : (3 : Int32) = nI 3 := rfl
  have hx : rjF f W m cl p = if (dm f W p (rjB f m (wd f W p))) 136 11 < 0 then (rj2 (rj1 (dm f W p (rjB f m (wd f W p))) W p cl (wd f W p)) (wd f W p), p + 3) else (dm f W p (rjB f m (wd f W p)), p) := rfl
  refine s_MD_readJoin_0 (vl0 := 0) (vc0 := 0) (vs0 := 0) h hw (by omega) (by omega) (by omega) (c_MD_wordAt hw hf (by omega)) ?_
  rintro _ _ _ ⟨rfl, rfl, rfl⟩
  refine s_MD_readJoin_5 (vl0 := 0) (vc0 := 0) (vs0 := 0) h hw (by omega) (by omega) (by omega) (c_MD_isTable hw hf.hm hf.hm2) ?_
  rintro _ _ _ ⟨rfl, rfl, rfl⟩
  have hB : rjB f m (wd f W p) = (inb (wd f W p) m && decide (¬ 8 < f 136 15 + f 137 (wd f W p).toNatClampNeg)) := rfl
  have go39 : ∀ b : Bool, b = rjB f m (wd f W p) → mm_go E Γ 4 39 [(0, mm_rf E 136), (1, .int (nI p)), (2, .int (wd f W p))] [.int (bI b), .int (nI p), mm_rf E 136] w f 0 0 := by
    intro b hb
    refine s_MD_readJoin_39 (vl0 := 0) (vc0 := 0) (vs0 := 0) h hw (by omega) (by omega) (by omega) (c_MD_demand hw hf (by omega)) ?_
    rw [hb]
    rintro _ _ _ ⟨rfl, rfl, rfl⟩
    have f1 := hf.ofi (dm_fr f W p (rjB f m (wd f W p)))
    refine s_MD_readJoin_42 (vl0 := 0) (vc0 := 0) (vs0 := 0) h he (Nat.le_refl _) (Nat.le_refl _) hw (by omega) (by omega) (by omega) (fun c1 => by rw [nI_1]; exact c_MD_wordAt hw f1 (by omega)) (fun c1 => ?_) (fun c1 => ?_)
    · rintro _ _ _ ⟨rfl, rfl, rfl⟩
      rw [if_pos c1] at hx
      have hin : inb (wd f W p) m = true := by
        have := (dm_ok (by omega) hW2 c1).2.2.1
        rw [hB, Bool.and_eq_true] at this
        exact this.1
      obtain ⟨ex, hxl⟩ := inb_nI hin (by omega)
      obtain ⟨hc1, hc2⟩ := f1.hcl _ hxl
      generalize dm f W p (rjB f m (wd f W p)) = g at hx f1 hc1
      generalize wd f W p = t at hx ex hxl hc1 hc2
      refine s_MD_readJoin_58 (vl0 := 0) (vc0 := 0) (vs0 := 0) h hw (by omega) (by omega) (by omega) (by rw [ex]; exact c_MD_isColumn hw (by omega) hc1 hc2) ?_
      rintro _ _ _ ⟨rfl, rfl, rfl⟩
      rw [nI_1]
      have bx : ixC g t (wd g W (p + 1)) (cl t.toNatClampNeg) = (inb (wd g W (p + 1)) (cl t.toNatClampNeg) && decide (¬ g 138 (4 * t.toNatClampNeg + (wd g W (p + 1)).toNatClampNeg) = 0)) := rfl
      have fin : ∀ b : Bool, b = ixC g t (wd g W (p + 1)) (cl t.toNatClampNeg) → mm_go E Γ 4 92 [(0, mm_rf E 136), (1, .int (nI p)), (2, .int t), (3, .int (wd g W (p + 1)))] [.int (bI b), .int (nI (p + 1)), mm_rf E 136] w g 0 0 := by
        intro b hb
        refine s_MD_readJoin_92 (vl0 := 0) (vc0 := 0) (vs0 := 0) h hw (by omega) (by omega) (by omega) (c_MD_demand hw f1 (by omega)) ?_
        rw [hb]
        have hj : rj1 g W p cl t = rcl (dm g W (p + 1) (ixC g t (wd g W (p + 1)) (cl t.toNatClampNeg))) W (p + 2) := rfl
        have f2 := f1.ofi (dm_fr g W (p + 1) (ixC g t (wd g W (p + 1)) (cl t.toNatClampNeg)))
        rintro _ _ _ ⟨rfl, rfl, rfl⟩
        generalize dm g W (p + 1) (ixC g t (wd g W (p + 1)) (cl t.toNatClampNeg)) = g2 at hj f2
        refine s_MD_readJoin_95 (vl0 := 0) (vc0 := 0) (vs0 := 0) h hw (by omega) (by omega) (by omega) (by rw [i2, nI_add]; exact c_MD_wordAt hw f2 (by omega)) ?_
        rintro _ _ _ ⟨rfl, rfl, rfl⟩
        refine s_MD_readJoin_107 (vl0 := 0) (vc0 := 0) (vs0 := 0) h hw (by omega) (by omega) (by omega) (c_MD_isCell hw) ?_
        rintro _ _ _ ⟨rfl, rfl, rfl⟩
        rw [i2, nI_add]
        refine s_MD_readJoin_110 (vl0 := 0) (vc0 := 0) (vs0 := 0) h hw (by omega) (by omega) (by omega) (c_MD_demand hw f2 (by omega)) ?_
        rintro _ _ _ ⟨rfl, rfl, rfl⟩
        refine s_MD_readJoin_113 h he (Nat.le_refl _) (Nat.le_refl _) hw (by rw [ex]; exact mm_inI (by omega) (by omega)) ?_
        rw [hx, i3, nI_add, hj]; exact mm_Pr
      have ei : ∀ q : inb (wd g W (p + 1)) (cl t.toNatClampNeg) = true, 4 * t + (wd g W (p + 1) &&& 3) = nI (4 * t.toNatClampNeg + (wd g W (p + 1)).toNatClampNeg) ∧ (wd g W (p + 1)).toNatClampNeg < 4 := fun q => by
        obtain ⟨ey, hyl⟩ := inb_nI q (by omega)
        refine ⟨?_, by omega⟩
        rw [← nI_add, ← nI_4, ← ex, ← nI_and3 _ (show (wd g W (p + 1)).toNatClampNeg < 4 by omega), ← ey]
      refine s_MD_readJoin_69 h hw (fun c3 => ?_) (fun c3 => ?_) (fun c3 c4 => ?_) (fun c3 c4 => ?_)
      · refine s_MD_readJoin_91 h hw (fin false ?_)
        rw [bx, bI_eq0 c3]; rfl
      · obtain ⟨e1, e2⟩ := ei (bI_ne0 c3)
        rw [e1]; exact mm_inI (by omega) (by omega)
      · obtain ⟨e1, e2⟩ := ei (bI_ne0 c3)
        rw [e1, nI_clamp (by omega)] at c4
        refine s_MD_readJoin_91 h hw (fin false ?_)
        rw [bx, c4, decide_eq_false (by exact fun z => z rfl), Bool.and_false]
      · obtain ⟨e1, e2⟩ := ei (bI_ne0 c3)
        rw [e1, nI_clamp (by omega)] at c4
        refine fin true ?_
        rw [bx, bI_ne0 c3, decide_eq_true c4]; rfl
    · rw [if_neg c1] at hx
      rw [hx]; exact mm_Pr
  have e3 : inb (wd f W p) m = true → (wd f W p) &&& 3 = nI (wd f W p).toNatClampNeg ∧ (wd f W p).toNatClampNeg < 4 := fun q => by
    obtain ⟨ex, hxl⟩ := inb_nI q (by omega)
    have := nI_and3 (wd f W p).toNatClampNeg (by omega)
    rw [← ex] at this
    exact ⟨this.trans ex, by omega⟩
  refine s_MD_readJoin_13 h hw (fun c1 => ?_) (fun c1 => ?_) (fun c1 c2 => ?_) (fun c1 c2 => ?_)
  · exact s_MD_readJoin_38 h hw (go39 false (by rw [hB, bI_eq0 c1]; rfl))
  · obtain ⟨a1, a2⟩ := e3 (bI_ne0 c1)
    rw [a1]; exact mm_inI (by omega) (by omega)
  · obtain ⟨a1, a2⟩ := e3 (bI_ne0 c1)
    rw [a1, nI_clamp (by omega)] at c2
    exact s_MD_readJoin_38 h hw (go39 false (by rw [hB, decide_eq_false (fun z => z c2), Bool.and_false]))
  · obtain ⟨a1, a2⟩ := e3 (bI_ne0 c1)
    rw [a1, nI_clamp (by omega)] at c2
    exact go39 true (by rw [hB, decide_eq_true c2, bI_ne0 c1]; rfl)
theorem c_MD_readStep {op : Int32} (hw : mm_sh w) (hf : Mk f W m cl) (hp : p ≤ 60) : mm_C E y_MD_readStep b_MD_readStep 3 (some .int) 2 0 0 [mm_rf E 136, .int op, .int (nI p)] w f (mm_P (some (.int (nI (rsF f W m cl op p).2))) w (rsF f W m cl op p).1) := by
  refine mm_start (by decide) rfl (Nat.le_of_ble_eq_true rfl) fun Γ h he => ?_
  have i2 : (2 : Int32) = nI 2 := rfl
  have i3 : (3 : Int32) = nI 3 := rfl
  have hx : rsF f W m cl op p = (if op = 3 then (dm (dm (rcl f W p) W (p + 1) (btw 0 5 (wd f W (p + 1)))) W (p + 2) true, p + 3) else if op = 4 then rcF f W p else if op = 5 then rjF f W m cl p
    else if op = 6 ∨ op = 7 then (dm f W p (decide (¬ wd f W p < 0)), p + 1) else if op = 8 then (mm_up f 136 15 1, p) else if op = 9 then (mm_up (rcl f W p) 136 15 1, p + 1) else (mm_up (rcl f W p) 136 15 2, p + 1)) := rfl
  have g115 : rsF f W m cl op p = (dm f W p (decide (¬ wd f W p < 0)), p + 1) → mm_go E Γ 3 115 [(0, mm_rf E 136), (1, .int op), (2, .int (nI p))] [] w f 0 0 := fun e => by
    refine s_MD_readStep_115 (vl0 := 0) (vc0 := 0) (vs0 := 0) h hw (by omega) (by omega) (by omega) (c_MD_wordAt hw hf (by omega)) ?_
    rintro _ _ _ ⟨rfl, rfl, rfl⟩
    have g130 : ∀ b : Bool, b = decide (¬ wd f W p < 0) → mm_go E Γ 3 130 [(0, mm_rf E 136), (1, .int op), (2, .int (nI p))] [.int (bI b), .int (nI p), mm_rf E 136] w f 0 0 := by
      intro b hb
      refine s_MD_readStep_130 (vl0 := 0) (vc0 := 0) (vs0 := 0) h hw (by omega) (by omega) (by omega) (c_MD_demand hw hf (by omega)) ?_
      rw [hb]
      rintro _ _ _ ⟨rfl, rfl, rfl⟩
      refine s_MD_readStep_133 h he (Nat.le_refl _) (Nat.le_refl _) hw ?_
      rw [e, nI_1]; exact mm_Pr
    refine s_MD_readStep_122 h hw (fun c => g130 false ?_) (fun c => g130 true ?_)
    · rw [decide_eq_false (fun z => z c)]
    · rw [decide_eq_true c]
  refine s_MD_readStep_0 h hw (fun c1 => ?_) (fun c1 c2 => ?_) (fun c1 c2 c3 => ?_) (fun c1 c2 c3 c4 => ?_) (fun c1 c2 c3 c4 c5 => ?_) (fun c1 c2 c3 c4 c5 c6 => ?_) (fun c1 c2 c3 c4 c5 c6 c7 => ?_) (fun c1 c2 c3 c4 c5 c6 c7 => ?_)
  · rw [if_pos c1] at hx
    refine s_MD_readStep_44 (vl0 := 0) (vc0 := 0) (vs0 := 0) h hw (by omega) (by omega) (by omega) (c_MD_wordAt hw hf (by omega)) ?_
    rintro _ _ _ ⟨rfl, rfl, rfl⟩
    refine s_MD_readStep_52 (vl0 := 0) (vc0 := 0) (vs0 := 0) h hw (by omega) (by omega) (by omega) (c_MD_isCell hw) ?_
    rintro _ _ _ ⟨rfl, rfl, rfl⟩
    refine s_MD_readStep_55 (vl0 := 0) (vc0 := 0) (vs0 := 0) h hw (by omega) (by omega) (by omega) (c_MD_demand hw hf (by omega)) ?_
    show ∀ r w1 f1, mm_P none w (rcl f W p) r w1 f1 → _
    rintro _ _ _ ⟨rfl, rfl, rfl⟩
    have f1 := hf.ofi (rcl_fr f W p)
    have ew : wd (rcl f W p) W (p + 1) = wd f W (p + 1) := wd_fri (rcl_fr f W p)
    generalize rcl f W p = g at hx f1 ew
    refine s_MD_readStep_58 (vl0 := 0) (vc0 := 0) (vs0 := 0) h hw (by omega) (by omega) (by omega) (by rw [nI_1]; exact c_MD_wordAt hw f1 (by omega)) ?_
    rw [ew, nI_1]
    rintro _ _ _ ⟨rfl, rfl, rfl⟩
    have g88 : ∀ b : Bool, b = btw 0 5 (wd f W (p + 1)) → mm_go E Γ 3 88 [(0, mm_rf E 136), (1, .int op), (2, .int (nI p))] [.int (bI b), .int (nI (p + 1)), mm_rf E 136] w g 0 0 := by
      intro b hb
      refine s_MD_readStep_88 (vl0 := 0) (vc0 := 0) (vs0 := 0) h hw (by omega) (by omega) (by omega) (c_MD_demand hw f1 (by omega)) ?_
      rw [hb]
      rintro _ _ _ ⟨rfl, rfl, rfl⟩
      refine s_MD_readStep_91 (vl0 := 0) (vc0 := 0) (vs0 := 0) h hw (by omega) (by omega) (by omega) (by rw [i2, nI_add]; exact c_MD_demand1 hw (f1.ofi (dm_fr _ _ _ _)) (by omega)) ?_
      rintro _ _ _ ⟨rfl, rfl, rfl⟩
      refine s_MD_readStep_99 h he (Nat.le_refl _) (Nat.le_refl _) hw ?_
      rw [hx, i3, nI_add]; exact mm_Pr
    refine s_MD_readStep_69 (vl0 := 0) (vc0 := 0) (vs0 := 0) h hw (fun c2 => ?_) (by omega) (by omega) (by omega) (fun c2 => by rw [nI_1]; exact c_MD_wordAt hw f1 (by omega)) (fun c2 => ?_)
    · exact s_MD_readStep_87 h hw (g88 false (by unfold btw; rw [decide_eq_false]; exact fun z => z.1 c2))
    · rw [ew]
      rintro _ _ _ ⟨rfl, rfl, rfl⟩
      refine s_MD_readStep_79 h hw (fun c3 => ?_) (fun c3 => ?_)
      · exact s_MD_readStep_87 h hw (g88 false (by unfold btw; rw [decide_eq_false]; exact fun z => z.2 c3))
      · exact g88 true (by unfold btw; rw [decide_eq_true]; exact ⟨c2, c3⟩)
  · rw [if_neg c1, if_pos c2] at hx
    refine s_MD_readStep_103 (vl0 := 1) (vc0 := 0) (vs0 := 0) h hw (by omega) (by omega) (by omega) (c_MD_readCells hw hf hp) ?_
    rintro _ _ _ ⟨rfl, rfl, rfl⟩
    exact s_MD_readStep_108 h he (Nat.le_refl _) (Nat.le_refl _) hw (by rw [hx]; exact mm_Pr)
  · rw [if_neg c1, if_neg c2, if_pos c3] at hx
    refine s_MD_readStep_109 (vl0 := 1) (vc0 := 0) (vs0 := 0) h hw (by omega) (by omega) (by omega) (c_MD_readJoin hw hf hp) ?_
    rintro _ _ _ ⟨rfl, rfl, rfl⟩
    exact s_MD_readStep_114 h he (Nat.le_refl _) (Nat.le_refl _) hw (by rw [hx]; exact mm_Pr)
  · rw [if_neg c1, if_neg c2, if_neg c3, if_pos (Or.inl c4)] at hx
    exact g115 hx
  · rw [if_neg c1, if_neg c2, if_neg c3, if_pos (Or.inr c5)] at hx
    exact g115 hx
  · rw [if_neg c1, if_neg c2, if_neg c3, if_neg (by rintro (z | z); exact c4 z; exact c5 z), if_pos c6] at hx
    exact s_MD_readStep_137 h he (Nat.le_refl _) (Nat.le_refl _) hw (by rw [hx]; exact mm_Pr)
  · rw [if_neg c1, if_neg c2, if_neg c3, if_neg (by rintro (z | z); exact c4 z; exact c5 z), if_neg c6, if_pos c7] at hx
    refine s_MD_readStep_144 (vl0 := 0) (vc0 := 0) (vs0 := 0) h hw (by omega) (by omega) (by omega) (c_MD_wordAt hw hf (by omega)) ?_
    rintro _ _ _ ⟨rfl, rfl, rfl⟩
    refine s_MD_readStep_152 (vl0 := 0) (vc0 := 0) (vs0 := 0) h hw (by omega) (by omega) (by omega) (c_MD_isCell hw) ?_
    rintro _ _ _ ⟨rfl, rfl, rfl⟩
    refine s_MD_readStep_155 (vl0 := 0) (vc0 := 0) (vs0 := 0) h hw (by omega) (by omega) (by omega) (c_MD_demand hw hf (by omega)) ?_
    show ∀ r w1 f1, mm_P none w (rcl f W p) r w1 f1 → _
    rintro _ _ _ ⟨rfl, rfl, rfl⟩
    exact s_MD_readStep_158 h he (Nat.le_refl _) (Nat.le_refl _) hw (by rw [hx, nI_1]; exact mm_Pr)
  · rw [if_neg c1, if_neg c2, if_neg c3, if_neg (by rintro (z | z); exact c4 z; exact c5 z), if_neg c6, if_neg c7] at hx
    refine s_MD_readStep_167 (vl0 := 0) (vc0 := 0) (vs0 := 0) h hw (by omega) (by omega) (by omega) (c_MD_wordAt hw hf (by omega)) ?_
    rintro _ _ _ ⟨rfl, rfl, rfl⟩
    refine s_MD_readStep_175 (vl0 := 0) (vc0 := 0) (vs0 := 0) h hw (by omega) (by omega) (by omega) (c_MD_isCell hw) ?_
    rintro _ _ _ ⟨rfl, rfl, rfl⟩
    refine s_MD_readStep_178 (vl0 := 0) (vc0 := 0) (vs0 := 0) h hw (by omega) (by omega) (by omega) (c_MD_demand hw hf (by omega)) ?_
    show ∀ r w1 f1, mm_P none w (rcl f W p) r w1 f1 → _
    rintro _ _ _ ⟨rfl, rfl, rfl⟩
    exact s_MD_readStep_181 h he (Nat.le_refl _) (Nat.le_refl _) hw (by rw [hx, nI_1]; exact mm_Pr)
theorem rpS_fr (f : mm_F) (s p : Nat) (op : Int32) : rfr f (rpS f s p op) := (((rfr.up (by omega)).tr (rfr.up (by omega))).tr (rfr.up (by omega))).tr (rfr.up (by omega))
theorem rpL_fr : ∀ (k : Nat) (f : mm_F) (p : Nat), rfr f (rpL W m cl k f p)
  | 0, f, p => rfr.rf f
  | k + 1, f, p => by
    unfold rpL
    split
    · split
      · exact ((rpS_fr _ _ _ _).tr (rsF_fr _ _ _ _ _ _).fr).tr (rpL_fr k _ _)
      · exact (dm_fr _ _ _ _).fr
    · exact rfr.rf f
theorem rso_fr (f : mm_F) : rfr f (rso f W m cl) := by
  have h1 : rfr f (rso2 f W m) := ((((rfr.up (by omega)).tr (rfr.up (by omega))).tr (dm_fr _ _ _ _).fr).tr (dm_fr _ _ _ _).fr)
  unfold rso
  split
  · refine (h1.tr (rfr.up (a := 136) (j := 15) (x := (rso2 f W m) 137 (wd f W 1).toNatClampNeg) (by omega))).tr ?_
    unfold rso4
    split
    · exact (((dm_fr _ _ _ _).tr (dm_fr _ _ _ _)).tr (dm_fr _ _ _ _)).fr
    · exact rfr.rf _
  · exact h1
theorem rp0_fr (f : mm_F) : rfr f (rp0 f W m cl) := (((rfr.up (by omega)).tr (rfr.up (by omega))).tr (rfr.up (by omega))).tr (rso_fr _)
theorem rpF_fr (f : mm_F) : rfr f (rpF f W m cl) := (rp0_fr f).tr (rpL_fr _ _ _)
theorem rso_s (f : mm_F) : (rso f W m cl) 136 10 = f 136 10 := by
  have h1 : (rso2 f W m) 136 10 = f 136 10 := by
    unfold rso2 rso1
    rw [dm_fr _ _ _ _ 136 10 (by omega), dm_fr _ _ _ _ 136 10 (by omega), mm_up_ne _ _ (by omega), mm_up_ne _ _ (by omega)]
  unfold rso
  split
  · unfold rso4
    split
    · rw [dm_fr _ _ _ _ 136 10 (by omega), dm_fr _ _ _ _ 136 10 (by omega), dm_fr _ _ _ _ 136 10 (by omega), mm_up_ne _ _ (by omega)]; exact h1
    · rw [mm_up_ne _ _ (by omega)]; exact h1
  · exact h1
theorem c_MD_readPlan (hw : mm_sh w) (hf : Mk f W m cl) : mm_C E y_MD_readPlan b_MD_readPlan 3 none 3 0 0 [mm_rf E 136] w f (mm_P none w (rpF f W m cl)) := by
  refine mm_start (by decide) rfl (Nat.le_of_ble_eq_true rfl) fun Γ h he => ?_
  have hW2 := hf.hW2
  have f0 : Mk (mm_up (mm_up (mm_up f 136 11 (-1)) 136 10 1) 136 15 0) W m cl := hf.of (((rfr.up (by omega)).tr (rfr.up (by omega))).tr (rfr.up (by omega)))
  refine s_MD_readPlan_0 (vl0 := 1) (vc0 := 0) (vs0 := 0) h hw (by omega) (by omega) (by omega) (c_MD_readSource hw f0) ?_
  show ∀ r w1 f1, mm_P none w (rp0 f W m cl) r w1 f1 → _
  rintro _ _ _ ⟨rfl, rfl, rfl⟩
  have loop : ∀ (k : Nat) (g : mm_F) (p s : Nat), W ≤ p + k → p ≤ 60 → s + 1 ≤ p → g 136 10 = nI s → Mk g W m cl → rpF f W m cl = rpL W m cl k g p → mm_go E Γ 3 35 [(0, mm_rf E 136), (1, .int (nI p))] [] w g 0 0 := by
    intro k
    induction k with
    | zero =>
      intro g p s hk hp hs hg hf1 hx
      have hx' : rpF f W m cl = g := hx
      have fin : mm_go E Γ 3 142 [(0, mm_rf E 136), (1, .int (nI p))] [] w g 0 0 := s_MD_readPlan_142 h he (Nat.le_refl _) (Nat.le_refl _) hw (by rw [hx']; exact mm_Pr)
      refine s_MD_readPlan_35 h hw (fun _ => fin) (fun _ _ => fin) (fun _ c2 => ?_) (fun _ c2 => ?_) (fun _ c2 => ?_) (fun _ c2 => ?_)
      all_goals (rw [hf1.hW, nI_leI (by omega) (by omega)] at c2; omega)
    | succ k ih =>
      intro g p s hk hp hs hg hf1 hx
      have hx' : rpF f W m cl = if g 136 11 < 0 ∧ p < W then (if (dm g W p (btw 3 10 (g 142 p))) 136 11 < 0 then rpL W m cl k (rsF (rpS g (g 136 10).toNatClampNeg p (g 142 p)) W m cl (g 142 p) (p + 1)).1 (rsF (rpS g (g 136 10).toNatClampNeg p (g 142 p)) W m cl (g 142 p) (p + 1)).2 else dm g W p (btw 3 10 (g 142 p))) else g := hx
      have fin : ¬ (g 136 11 < 0 ∧ p < W) → mm_go E Γ 3 142 [(0, mm_rf E 136), (1, .int (nI p))] [] w g 0 0 := fun q => s_MD_readPlan_142 h he (Nat.le_refl _) (Nat.le_refl _) hw (by rw [hx', if_neg q]; exact mm_Pr)
      have g75 : ∀ b : Bool, b = btw 3 10 (g 142 p) → g 136 11 < 0 → p < W → mm_go E Γ 3 75 [(0, mm_rf E 136), (1, .int (nI p)), (2, .int (g 142 p))] [.int (bI b), .int (nI p), mm_rf E 136] w g 0 0 := by
        intro b hb c1 c2
        rw [if_pos ⟨c1, c2⟩] at hx'
        refine s_MD_readPlan_75 (vl0 := 0) (vc0 := 0) (vs0 := 0) h hw (by omega) (by omega) (by omega) (c_MD_demand hw hf1 (by omega)) ?_
        rw [hb]
        rintro _ _ _ ⟨rfl, rfl, rfl⟩
        by_cases c3 : (dm g W p (btw 3 10 (g 142 p))) 136 11 < 0
        · rw [if_pos c3] at hx'
          have e1 := (dm_ok (by omega) hW2 c3).2.2.2
          rw [e1]
          have es : (g 136 10).toNatClampNeg = s := by rw [hg, nI_clamp (by omega)]
          rw [es] at hx'
          have f2 := hf1.of (rpS_fr g s p (g 142 p))
          have fp := rsF_p (m := m) (cl := cl) (op := g 142 p) (rpS g s p (g 142 p)) (show p + 1 ≤ 100 by omega) hW2
          have ff := rsF_fr (rpS g s p (g 142 p)) W m cl (g 142 p) (p + 1)
          have e2 : (rsF (rpS g s p (g 142 p)) W m cl (g 142 p) (p + 1)).1 136 10 = nI (s + 1) := by
            rw [ff 136 10 (by omega)]
            unfold rpS
            rw [mm_up_eq]
          have eS : mm_up (mm_up (mm_up (mm_up g 143 ((g 136 10)).toNatClampNeg (g 142 p)) 144 (((mm_up g 143 ((g 136 10)).toNatClampNeg (g 142 p)) 136 10)).toNatClampNeg (nI p + 1)) 145 (((mm_up (mm_up g 143 ((g 136 10)).toNatClampNeg (g 142 p)) 144 (((mm_up g 143 ((g 136 10)).toNatClampNeg (g 142 p)) 136 10)).toNatClampNeg (nI p + 1)) 136 10)).toNatClampNeg ((mm_up (mm_up g 143 ((g 136 10)).toNatClampNeg (g 142 p)) 144 (((mm_up g 143 ((g 136 10)).toNatClampNeg (g 142 p)) 136 10)).toNatClampNeg (nI p + 1)) 136 15)) 136 10 (((mm_up (mm_up (mm_up g 143 ((g 136 10)).toNatClampNeg (g 142 p)) 144 (((mm_up g 143 ((g 136 10)).toNatClampNeg (g 142 p)) 136 10)).toNatClampNeg (nI p + 1)) 145 (((mm_up (mm_up g 143 ((g 136 10)).toNatClampNeg (g 142 p)) 144 (((mm_up g 143 ((g 136 10)).toNatClampNeg (g 142 p)) 136 10)).toNatClampNeg (nI p + 1)) 136 10)).toNatClampNeg ((mm_up (mm_up g 143 ((g 136 10)).toNatClampNeg (g 142 p)) 144 (((mm_up g 143 ((g 136 10)).toNatClampNeg (g 142 p)) 136 10)).toNatClampNeg (nI p + 1)) 136 15)) 136 10) + 1) = rpS g s p (g 142 p) := by
            have o1 : ∀ (h : mm_F) (j : Nat) (x : Int32) (k : Nat), mm_up h 143 j x 136 k = h 136 k := fun _ _ _ _ => mm_up_ne _ _ (by omega)
            have o2 : ∀ (h : mm_F) (j : Nat) (x : Int32) (k : Nat), mm_up h 144 j x 136 k = h 136 k := fun _ _ _ _ => mm_up_ne _ _ (by omega)
            have o3 : ∀ (h : mm_F) (j : Nat) (x : Int32) (k : Nat), mm_up h 145 j x 136 k = h 136 k := fun _ _ _ _ => mm_up_ne _ _ (by omega)
            simp only [o1, o2, o3, es]
            rw [hg, nI_1, nI_1]
            rfl
          refine s_MD_readPlan_78 (vl0 := 2) (vc0 := 0) (vs0 := 0) h hw (fun q => absurd c1 (Int32.not_lt.mpr q)) (fun _ => ?_) (fun _ => ?_) (fun _ => ?_) (by omega) (by omega) (by omega) (fun _ => by rw [eS, nI_1]; exact c_MD_readStep hw f2 (by omega)) (fun _ => ?_)
          · rw [hg]; exact mm_inI (by omega) (by omega)
          · rw [mm_up_ne _ _ (by omega), hg]; exact mm_inI (by omega) (by omega)
          · rw [mm_up_ne _ _ (by omega), mm_up_ne _ _ (by omega), hg]; exact mm_inI (by omega) (by omega)
          rintro _ _ _ ⟨rfl, rfl, rfl⟩
          refine s_MD_readPlan_138 h hw (s_MD_readPlan_139 h hw ?_)
          exact ih _ _ (s + 1) (by omega) (by omega) (by omega) e2 (f2.ofi ff) hx'
        · rw [if_neg c3] at hx'
          have c3' := Int32.not_lt.mp c3
          refine s_MD_readPlan_78 (vl0 := 0) (vc0 := 0) (vs0 := 0) (P0 := fun _ _ _ => False) h hw (fun _ => ?_) (fun q => absurd c3' q) (fun q => absurd c3' q) (fun q => absurd c3' q) (by omega) (by omega) (by omega) (fun q => absurd c3' q) (fun q => absurd c3' q)
          refine s_MD_readPlan_139 h hw ?_
          refine s_MD_readPlan_35 h hw (fun _ => ?_) (fun q => absurd c3' q) (fun q => absurd c3' q) (fun q => absurd c3' q) (fun q => absurd c3' q) (fun q => absurd c3' q)
          exact s_MD_readPlan_142 h he (Nat.le_refl _) (Nat.le_refl _) hw (by rw [hx']; exact mm_Pr)
      have cc : ¬ g 136 8 ≤ nI p → p < W := fun q => by
        rw [hf1.hW, nI_leI (by omega) (by omega)] at q; omega
      have ep : (nI p).toNatClampNeg = p := nI_clamp (by omega)
      refine s_MD_readPlan_35 h hw (fun c1 => fin fun z => absurd z.1 (Int32.not_lt.mpr c1)) (fun c1 c2 => fin fun z => ?_) (fun c1 c2 => ?_) (fun c1 c2 c3 => ?_) (fun c1 c2 c3 c4 => ?_) (fun c1 c2 c3 c4 => ?_)
      · rw [hf1.hW, nI_leI (by omega) (by omega)] at c2; omega
      · have := cc c2; exact mm_inI (by omega) (by omega)
      · rw [ep] at c3 ⊢
        exact s_MD_readPlan_74 h hw (g75 false (by unfold btw; rw [decide_eq_false]; exact fun z => z.1 c3) (Int32.not_le.mp c1) (cc c2))
      · rw [ep] at c4 ⊢
        exact s_MD_readPlan_74 h hw (g75 false (by unfold btw; rw [decide_eq_false]; exact fun z => z.2 c4) (Int32.not_le.mp c1) (cc c2))
      · rw [ep] at c3 c4 ⊢
        exact g75 true (by unfold btw; rw [decide_eq_true]; exact ⟨c3, c4⟩) (Int32.not_le.mp c1) (cc c2)
  have e1 : (rp0 f W m cl) 136 10 = nI 1 := by
    unfold rp0
    rw [rso_s, mm_up_ne _ _ (by omega), mm_up_eq]; rfl
  have hx : rpF f W m cl = rpL W m cl 40 (rp0 f W m cl) (if (rp0 f W m cl) 143 0 = 2 then 5 else 2) := rfl
  have f1 := hf.of (rp0_fr (W := W) (m := m) (cl := cl) f)
  refine s_MD_readPlan_19 h hw (fun c => ?_) (fun c => ?_)
  · rw [if_neg c] at hx
    exact s_MD_readPlan_34 h hw (loop 40 _ 2 1 (by omega) (by omega) (by omega) e1 f1 hx)
  · rw [if_pos c] at hx
    exact s_MD_readPlan_34 h hw (loop 40 _ 5 1 (by omega) (by omega) (by omega) e1 f1 hx)
def faF (f : mm_F) (W m : Nat) (cl : Nat → Nat) : mm_F := rpF (mm_up f 136 0 0) W m cl
theorem Mk.code {f : mm_F} {W m : Nat} {cl : Nat → Nat} {x : Int32} (h : Mk f W m cl) : Mk (mm_up f 136 0 x) W m cl :=
  ⟨by rw [mm_up_ne _ _ (by omega)]; exact h.hW, h.hW2, by rw [mm_up_ne _ _ (by omega)]; exact h.hm, h.hm2, fun t ht => by rw [mm_up_ne _ _ (by omega)]; exact h.hcl t ht⟩
theorem c_MD_fault (hw : mm_sh w) (hf : Mk f W m cl) : mm_C E y_MD_fault b_MD_fault 1 (some .int) 4 0 0 [mm_rf E 136] w f (mm_P (some (.int (if 0 ≤ (faF f W m cl) 136 11 then (faF f W m cl) 136 11 else -1))) w (faF f W m cl)) := by
  refine mm_start (by decide) rfl (Nat.le_of_ble_eq_true rfl) fun Γ h he => ?_
  refine s_MD_fault_0 (vl0 := 3) (vc0 := 0) (vs0 := 0) h hw (by omega) (by omega) (by omega) (c_MD_readPlan hw hf.code) ?_
  show ∀ r w1 f1, mm_P none w (faF f W m cl) r w1 f1 → _
  rintro _ _ _ ⟨rfl, rfl, rfl⟩
  refine s_MD_fault_9 h hw (fun c => ?_) (fun c => ?_)
  · exact s_MD_fault_24 h he (Nat.le_refl _) (Nat.le_refl _) hw (by rw [if_pos c]; exact mm_Pr)
  · exact s_MD_fault_24 h he (Nat.le_refl _) (Nat.le_refl _) hw (by rw [if_neg c]; exact mm_Pr)
theorem c_MD_width (hw : mm_sh w) (hf : Mk f W m cl) : mm_C E y_MD_width b_MD_width 1 (some .int) 4 0 0 [mm_rf E 136] w f (mm_P (some (.int (if 0 ≤ (faF f W m cl) 136 11 then -1 else (faF f W m cl) 136 15))) w (faF f W m cl)) := by
  refine mm_start (by decide) rfl (Nat.le_of_ble_eq_true rfl) fun Γ h he => ?_
  refine s_MD_width_0 (vl0 := 3) (vc0 := 0) (vs0 := 0) h hw (by omega) (by omega) (by omega) (c_MD_readPlan hw hf.code) ?_
  show ∀ r w1 f1, mm_P none w (faF f W m cl) r w1 f1 → _
  rintro _ _ _ ⟨rfl, rfl, rfl⟩
  refine s_MD_width_9 h hw (fun c => ?_) (fun c => ?_)
  · exact s_MD_width_24 h he (Nat.le_refl _) (Nat.le_refl _) hw (by rw [if_pos c]; exact mm_Pr)
  · exact s_MD_width_24 h he (Nat.le_refl _) (Nat.le_refl _) hw (by rw [if_neg c]; exact mm_Pr)
end CMD4
