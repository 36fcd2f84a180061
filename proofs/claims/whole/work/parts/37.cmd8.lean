/-! Contracts of the reference's run: following, beginning, going, the run. -/
def csT (f : mm_F) (s : Nat) : Bool := decide (f 143 s = 8 ∨ f 143 s = 9 ∨ f 143 s = 10 ∧ ¬ f 149 s = 0)
def csG (f : mm_F) (s : Nat) : mm_F := mm_up (mm_up (mm_up f 146 0 (if f 143 s = 10 then f 148 s else f 147 s)) 146 1 (f 147 s)) 136 20 (if f 143 s = 10 then 2 else 1)
def csF (f : mm_F) (n s : Nat) : mm_F := if csT f s = true then puF (n - (s + 1)) (csG f s) (s + 1) else f
def foL (f : mm_F) (s k : Nat) : mm_F := fun a j => if a = 146 ∧ j < k then f 150 (8 * s + j) else f a j
def foG (f : mm_F) (s r : Nat) : mm_F := loF (foL f s (f 145 s).toNatClampNeg) r (f 145 s).toNatClampNeg (f 137 (pw f s 0).toNatClampNeg).toNatClampNeg
def foF (f : mm_F) (n R s : Nat) : mm_F :=
  if (ntF f s R).2 < 0 then mm_up (ntF f s R).1 149 s 0 else if (viF (ntF f s R).1).2 = 0 then (viF (ntF f s R).1).1
  else puF (n - (s + 1)) (foG (viF (ntF f s R).1).1 s (ntF f s R).2.toNatClampNeg) (s + 1)
def scF (f : mm_F) : Nat := if f 143 0 = 2 then (f 142 2).toNatClampNeg else 0
def bgF (f : mm_F) (n R : Nat) : mm_F × Int32 :=
  if (nsF f (scF f) R).2 < 0 then ((nsF f (scF f) R).1, 0) else if (viF (nsF f (scF f) R).1).2 = 0 then ((viF (nsF f (scF f) R).1).1, 1)
  else (puF (n - 1) (loF (viF (nsF f (scF f) R).1).1 (nsF f (scF f) R).2.toNatClampNeg 0 (f 137 (f 142 1).toNatClampNeg).toNatClampNeg) 1, 1)
def gdF (f : mm_F) (x : Int32) : mm_F := fun a j => if (a = 147 ∨ a = 148 ∨ a = 149) ∧ j < 40 then 0 else (mm_up (mm_up (mm_up (mm_up (mm_up (mm_up f 136 16 x) 136 17 0) 136 18 0) 136 19 0) 136 28 0) 136 30 0) a j
/-- one turn of going on; b is one more than the base -/
def gI (f : mm_F) (n R b : Nat) : mm_F × Nat :=
  if ¬ sfF f b n ≤ wtF f b n then (f, (sfF f b n).toNatClampNeg + 1) else if ¬ wtF f b n < 0 then (foF f n R (wtF f b n).toNatClampNeg, b)
  else if b = 0 then ((bgF f n R).1, if (bgF f n R).2 = 0 then 1 else 0) else (csF f n b, b + 1)
def grM : Nat → mm_F → Nat → Nat → Nat → Option mm_F
  | 0, _, _, _, _ => none
  | k + 1, f, n, R, b => if n ≤ b ∨ ¬ f 136 18 = 0 ∨ ¬ f 136 19 = 0 then some f else grM k (gI f n R b).1 n R (gI f n R b).2
theorem viF_fr (f : mm_F) : dfr f (viF f).1 := by
  unfold viF
  split
  · exact (dfr.up (by omega)).tr (dfr.up (by omega))
  · exact (dfr.up (by omega)).tr (dfr.up (by omega))
theorem viF_RD {f : mm_F} (h : RD f) : RD (viF f).1 := by
  unfold viF
  split
  · exact (h.up (by omega)).up (by omega)
  · exact (h.up (by omega)).up (by omega)
theorem ntF_fr (f : mm_F) (s R : Nat) : dfr f (ntF f s R).1 := by
  unfold ntF
  split
  · exact dfr.rf f
  · exact (dfr.up (by omega)).tr (dfr.up (by omega))
theorem ntF_RD {f : mm_F} (s R : Nat) (h : RD f) : RD (ntF f s R).1 := by
  unfold ntF
  split
  · exact h
  · exact (h.up (by omega)).up (by omega)
theorem ntF_2 (f : mm_F) (s R : Nat) : (ntF f s R).2 = ntX f s R := by
  unfold ntF
  split <;> rfl
theorem nsF_2 (f : mm_F) (c R : Nat) : (nsF f c R).2 = nsB f c R := by
  unfold nsF
  split <;> rfl
theorem nsF_fr (f : mm_F) (c R : Nat) : dfr f (nsF f c R).1 := by
  unfold nsF
  split
  · exact dfr.rf f
  · exact ((dfr.up (by omega)).tr (dfr.up (by omega))).tr (dfr.up (by omega))
theorem nsF_RD {f : mm_F} (c R : Nat) (h : RD f) : RD (nsF f c R).1 := by
  unfold nsF
  split
  · exact h
  · exact ((h.up (by omega)).up (by omega)).up (by omega)
theorem foL_fr (f : mm_F) (s k : Nat) : dfr f (foL f s k) := fun a j _ q => by
  unfold foL
  rw [if_neg (by omega)]
theorem foL_off (f : mm_F) {s k a : Nat} (h : ¬ a = 146) : foL f s k a = f a := by
  funext j
  unfold foL
  rw [if_neg (fun z => h z.1)]
theorem foL_0 (f : mm_F) (s : Nat) : foL f s 0 = f := by
  funext a j
  unfold foL
  rw [if_neg (by omega)]
theorem foL_step (f : mm_F) (s k : Nat) : mm_up (foL f s k) 146 k (f 150 (8 * s + k)) = foL f s (k + 1) := by
  funext a j
  unfold mm_up foL
  by_cases h1 : a = 146 ∧ j = k
  · rw [if_pos h1, if_pos (by omega), h1.2]
  · rw [if_neg h1]
    by_cases h2 : a = 146 ∧ j < k
    · rw [if_pos h2, if_pos (by omega)]
    · rw [if_neg h2, if_neg (by omega)]
theorem loF_fr (f : mm_F) (r fr k : Nat) : dfr f (loF f r fr k) := (loL_fr _ _ _ _).tr (dfr.up (by omega))
theorem loF_RD {f : mm_F} {r fr k : Nat} (h : RD f) (hk : fr + k ≤ 8) : RD (loF f r fr k) := RD.car (h.of (by rw [loL_off _ (by omega)]) (by rw [loL_off _ (by omega)])) hk
theorem csG_fr (f : mm_F) (s : Nat) : dfr f (csG f s) := ((dfr.up (by omega)).tr (dfr.up (by omega))).tr (dfr.up (by omega))
theorem csG_RD {f : mm_F} (s : Nat) (h : RD f) : RD (csG f s) := by
  unfold csG
  split
  · exact RD.car (c := 2) ((h.up (by omega)).up (by omega)) (by omega)
  · exact RD.car (c := 1) ((h.up (by omega)).up (by omega)) (by omega)
theorem csF_fr (f : mm_F) (n s : Nat) : dfr f (csF f n s) := by
  unfold csF
  split
  · exact (csG_fr f s).tr (puF_fr _ _ _)
  · exact dfr.rf f
theorem foG_fr (f : mm_F) (s r : Nat) : dfr f (foG f s r) := (foL_fr _ _ _).tr (loF_fr _ _ _ _)
theorem foF_fr (f : mm_F) (n R s : Nat) : dfr f (foF f n R s) := by
  unfold foF
  split
  · exact (ntF_fr f s R).tr (dfr.up (by omega))
  split
  · exact (ntF_fr f s R).tr (viF_fr _)
  · exact (((ntF_fr f s R).tr (viF_fr _)).tr (foG_fr _ _ _)).tr (puF_fr _ _ _)
theorem bgF_fr (f : mm_F) (n R : Nat) : dfr f (bgF f n R).1 := by
  unfold bgF
  split
  · exact nsF_fr _ _ _
  split
  · exact (nsF_fr _ _ _).tr (viF_fr _)
  · exact (((nsF_fr _ _ _).tr (viF_fr _)).tr (loF_fr _ _ _ _)).tr (puF_fr _ _ _)
section CMD8
variable {E : mm_E} {w : mm_W} {f : mm_F} {s n m R : Nat} {cl : Nat → Nat}
theorem RS.q (h : RS f n m R cl) {s : Nat} (h1 : 1 ≤ s) (h2 : s < n) : qOK f m cl s := h.2.2.2.2.2.2.2.2.2 s h1 h2
theorem csF_RD (hr : RS f n m R cl) (h : RD f) (h2 : s < n) : RD (csF f n s) := by
  unfold csF
  split
  · exact puF_RD _ (hr.of (csG_fr f s)) (csG_RD s h) (by omega) (by omega)
  · exact h
theorem foG_RD (hr : RS f n m R cl) (h : RD f) (h1 : 1 ≤ s) (h2 : s < n) (h5 : f 143 s = 5) {r : Nat} : RD (foG f s r) := by
  obtain ⟨a, v, q1, q2, q3, q4, _, _, o5, _⟩ := hr.q h1 h2
  obtain ⟨a2, t, d, c, t1, d1, c1, e1, e2, e3, e4⟩ := o5 h5
  obtain ⟨_, _, _, _, _, m4, hcl, _⟩ := hr
  obtain ⟨k1, k2⟩ := hcl t t1
  have p0 : pw f s 0 = nI t := by unfold pw pA; rw [q1, nI_clamp (by omega)]; exact e1
  unfold foG
  rw [q3, p0, nI_clamp (by omega), nI_clamp (by omega), k1, nI_clamp (by omega)]
  exact loF_RD (h.of (by rw [foL_off _ (by omega)]) (by rw [foL_off _ (by omega)])) e4
theorem foF_RD (hr : RS f n m R cl) (h : RD f) (h1 : 1 ≤ s) (h2 : s < n) (h5 : f 143 s = 5) : RD (foF f n R s) := by
  unfold foF
  split
  · exact (ntF_RD s R h).up (by omega)
  split
  · exact viF_RD (ntF_RD s R h)
  · have fr := (ntF_fr f s R).tr (viF_fr (ntF f s R).1)
    refine puF_RD _ ((hr.of fr).of (foG_fr _ _ _)) (foG_RD (hr.of fr) (viF_RD (ntF_RD s R h)) h1 h2 ?_) (by omega) (by omega)
    rw [fr.row (a := 143) (by omega) (by omega)]; exact h5
theorem bgF_RD (hr : RS f n m R cl) (h : RD f) : RD (bgF f n R).1 := by
  have hr' := hr
  obtain ⟨_, n1, _, _, _, m4, hcl, ⟨t, t1, t2⟩, _⟩ := hr
  obtain ⟨k1, k2⟩ := hcl t t1
  unfold bgF
  split
  · exact nsF_RD _ _ h
  split
  · exact viF_RD (nsF_RD _ _ h)
  · rw [t2, nI_clamp (by omega), k1, nI_clamp (by omega)]
    exact puF_RD _ ((hr'.of ((nsF_fr _ _ _).tr (viF_fr _))).of (loF_fr _ _ _ _)) (loF_RD (viF_RD (nsF_RD _ _ h)) (by omega)) (by omega) (by omega)
theorem c_MD_close (hw : mm_sh w) (hr : RS f n m R cl) (hd : RD f) (h2 : s < n) : mm_C E y_MD_close b_MD_close 3 none 3 0 0 [mm_rf E 136, .int (nI s)] w f (mm_P none w (csF f n s)) := by
  refine mm_start (by decide) rfl (Nat.le_of_ble_eq_true rfl) fun Γ h he => ?_
  have n3 := hr.2.2.1
  have es : (nI s).toNatClampNeg = s := nI_clamp (by omega)
  have is : vp_in (nI s) 40 := mm_inI (by omega) (by omega)
  have hx : csF f n s = if csT f s = true then puF (n - (s + 1)) (csG f s) (s + 1) else f := rfl
  have hT : csT f s = decide (f 143 s = 8 ∨ f 143 s = 9 ∨ f 143 s = 10 ∧ ¬ f 149 s = 0) := rfl
  have yes : (f 143 s = 8 ∨ f 143 s = 9 ∨ f 143 s = 10 ∧ ¬ f 149 s = 0) → mm_go E Γ 3 42 [(0, mm_rf E 136), (1, .int (nI s))] [] w f 0 0 := fun q => by
    rw [hT, decide_eq_true q, if_pos rfl] at hx
    refine s_MD_close_42 h hw ?_
    have go114 : ∀ x y : Int32, x = (if f 143 s = 10 then f 148 s else f 147 s) → y = (if f 143 s = 10 then 2 else 1) → mm_go E Γ 3 114 [(0, mm_rf E 136), (1, .int (nI s)), (2, .int 1)] [.int y, mm_rf E 136] w (mm_up (mm_up f 146 0 x) 146 1 (f 147 s)) 0 0 := fun x y h1 h2 => by
      refine s_MD_close_114 (vl0 := 2) (vc0 := 0) (vs0 := 0) h hw (by omega) (by omega) (by omega) (by rw [h1, h2, nI_1]; exact c_MD_push hw (hr.of (csG_fr f s)) (csG_RD s hd) (by omega) (by omega)) ?_
      rintro _ _ _ ⟨rfl, rfl, rfl⟩
      exact s_MD_close_124 h he (Nat.le_refl _) (Nat.le_refl _) hw (by rw [hx]; exact mm_Pr)
    have g143 : ∀ x : Int32, (mm_up (mm_up f 146 0 x) 146 1 (f 147 s)) 143 s = f 143 s := fun x => by rw [mm_up_ne _ _ (by omega), mm_up_ne _ _ (by omega)]
    refine s_MD_close_47 h he (Nat.le_refl _) (Nat.le_refl _) hw (fun _ => is) (fun _ q1 => ?_) (fun _ q1 => ?_) (fun z => absurd z (by decide))
    · rw [es] at q1 ⊢
      refine s_MD_close_84 h hw (mm_inI (k := 0) (by omega) (by omega)) is (fun q2 => ?_) (fun q2 => ?_)
      · rw [es, mm_up_ne (c := 147) _ _ (by omega)]
        exact go114 _ 1 (by rw [if_neg q1]) (by rw [if_neg q1])
      · rw [es, mm_up_ne (c := 147) _ _ (by omega)] at q2
        exact absurd ((g143 _).symm.trans q2) q1
    · rw [es] at q1 ⊢
      refine s_MD_close_84 h hw (mm_inI (k := 0) (by omega) (by omega)) is (fun q2 => ?_) (fun q2 => ?_)
      · rw [es, mm_up_ne (c := 147) _ _ (by omega)] at q2
        exact absurd ((g143 _).trans q1) q2
      · rw [es, mm_up_ne (c := 147) _ _ (by omega)]
        exact go114 _ 2 (by rw [if_pos q1]) (by rw [if_pos q1])
  have no : ¬ (f 143 s = 8 ∨ f 143 s = 9 ∨ f 143 s = 10 ∧ ¬ f 149 s = 0) → mm_go E Γ 3 46 [(0, mm_rf E 136), (1, .int (nI s))] [] w f 0 0 := fun q => by
    rw [hT, decide_eq_false q, if_neg (by decide)] at hx
    exact s_MD_close_46 h hw (s_MD_close_47 h he (Nat.le_refl _) (Nat.le_refl _) hw (fun z => absurd rfl z) (fun z => absurd rfl z) (fun z => absurd rfl z) (fun _ => by rw [hx]; exact mm_Pr))
  refine s_MD_close_0 h hw is (fun q => ?_) (fun _ q => ?_) (fun q1 q2 q3 => ?_) (fun q1 q2 q3 q4 => ?_) (fun q1 q2 q3 q4 => ?_)
  · rw [es] at q; exact yes (Or.inl q)
  · rw [es] at q; exact yes (Or.inr (Or.inl q))
  · rw [es] at q1 q2 q3
    refine no ?_
    rintro (z | z | z)
    · exact q1 z
    · exact q2 z
    · exact q3 z.1
  · rw [es] at q1 q2 q3 q4
    refine no ?_
    rintro (z | z | z)
    · exact q1 z
    · exact q2 z
    · exact z.2 q4
  · rw [es] at q3 q4
    exact yes (Or.inr (Or.inr ⟨q3, q4⟩))
theorem c_MD_follow (hw : mm_sh w) (hr : RS f n m R cl) (hd : RD f) (h1 : 1 ≤ s) (h2 : s < n) (h5 : f 143 s = 5) : mm_C E y_MD_follow b_MD_follow 4 none 3 0 0 [mm_rf E 136, .int (nI s)] w f (mm_P none w (foF f n R s)) := by
  refine mm_start (by decide) rfl (Nat.le_of_ble_eq_true rfl) fun Γ h he => ?_
  have hr' := hr
  obtain ⟨_, _, n3, hR, hR2, m4, hcl, _⟩ := hr'
  obtain ⟨a, v, q1, q2, q3, q4, _, _, o5, _⟩ := hr.q h1 h2
  obtain ⟨a2, t, d, c, t1, d1, c1, e1, e2, e3, e4⟩ := o5 h5
  obtain ⟨k1, k2⟩ := hcl t t1
  have es : (nI s).toNatClampNeg = s := nI_clamp (by omega)
  have is : vp_in (nI s) 40 := mm_inI (by omega) (by omega)
  have hx : foF f n R s = if (ntF f s R).2 < 0 then mm_up (ntF f s R).1 149 s 0 else if (viF (ntF f s R).1).2 = 0 then (viF (ntF f s R).1).1 else puF (n - (s + 1)) (foG (viF (ntF f s R).1).1 s (ntF f s R).2.toNatClampNeg) (s + 1) := rfl
  refine s_MD_follow_0 (vl0 := 0) (vc0 := 0) (vs0 := 0) h hw (by omega) (by omega) (by omega) (c_MD_nextOfStep hw hR hR2 (by omega) q1 a2 e1 e2 d1 e3 c1) ?_
  rintro _ _ _ ⟨rfl, rfl, rfl⟩
  refine s_MD_follow_5 (vl0 := 0) (vc0 := 0) (vs0 := 0) h hw (by omega) (by omega) (by omega) (fun _ => c_MD_visit hw) (fun q => ?_) (fun _ => is) (fun q => ?_)
  · rw [if_neg (Int32.not_lt.mpr q)] at hx
    rintro _ _ _ ⟨rfl, rfl, rfl⟩
    refine s_MD_follow_24 h hw (fun q5 => ?_) (fun q5 => ?_)
    · rw [if_pos q5] at hx
      exact s_MD_follow_96 h he (Nat.le_refl _) (Nat.le_refl _) hw (by rw [hx]; exact mm_Pr)
    · rw [if_neg q5] at hx
      have fr := (ntF_fr f s R).tr (viF_fr (ntF f s R).1)
      have hg := hr.of fr
      have hgd := viF_RD (ntF_RD s R hd)
      have g145 : (viF (ntF f s R).1).1 145 s = nI v := by rw [fr.row (a := 145) (by omega) (by omega)]; exact q3
      have g144 : (viF (ntF f s R).1).1 144 s = nI a := by rw [fr.row (a := 144) (by omega) (by omega)]; exact q1
      have g142 : (viF (ntF f s R).1).1 142 a = nI t := by rw [fr.row (a := 142) (by omega) (by omega)]; exact e1
      have g137 : (viF (ntF f s R).1).1 137 t = nI (cl t) := by rw [fr.row (a := 137) (by omega) (by omega)]; exact k1
      have g143 : (viF (ntF f s R).1).1 143 s = 5 := by rw [fr.row (a := 143) (by omega) (by omega)]; exact h5
      have hr2 : ∃ r, r < R ∧ (ntF f s R).2 = nI r := by
        rw [ntF_2] at q ⊢
        unfold ntX at q ⊢
        rcases ntB_val f s (pw f s 1).toNatClampNeg (pw f s 0) (f 150 (8 * s + (pw f s 2).toNatClampNeg)) R with hv | hv
        · rw [hv] at q; exact absurd q (by decide)
        · exact hv
      obtain ⟨r, r1, r2⟩ := hr2
      rw [r2, nI_clamp (by omega)] at hx
      rw [r2]
      generalize (viF (ntF f s R).1).1 = g at hx hg hgd g145 g144 g142 g137 g143
      have pg : pw g s 0 = nI t := by unfold pw pA; rw [g144, nI_clamp (by omega)]; exact g142
      have eG : foG g s r = loF (foL g s v) r v (cl t) := by
        unfold foG
        rw [g145, pg, nI_clamp (by omega), nI_clamp (by omega), g137, nI_clamp (by omega)]
      rw [eG] at hx
      have loop : ∀ d k, k + d = v → mm_go E Γ 4 29 [(0, mm_rf E 136), (1, .int (nI s)), (2, .int (nI r)), (3, .int (nI k))] [] w (foL g s k) 0 0 := by
        intro d
        induction d with
        | zero =>
          intro k hk
          have : k = v := by omega
          subst this
          have o : ∀ {a : Nat}, ¬ a = 146 → (foL g s k) a = g a := fun ha => foL_off _ ha
          refine s_MD_follow_29 (vl0 := 0) (vc0 := 0) (vs0 := 0) (P0 := mm_P none w (loF (foL g s k) r k (cl t))) h hw is (fun _ => ?_) (fun _ => ?_) (by omega) (by omega) (by omega) (fun _ => ?_) (fun _ => ?_) (fun q => ?_) (fun q => ?_) (fun q => ?_)
          · rw [o (by omega), es, g144]; exact mm_inI (by omega) (by omega)
          · rw [o (by omega), o (by omega), es, g144, nI_clamp (by omega), g142]; exact mm_inI (by omega) (by omega)
          · rw [o (by omega), o (by omega), o (by omega), o (by omega), es, g144, g145, nI_clamp (n := a) (by omega), g142, nI_clamp (n := t) (by omega), g137]
            exact c_MD_load hw (by omega) k2 e4
          · rintro _ _ _ ⟨rfl, rfl, rfl⟩
            have hR1 := hg.of (foG_fr g s r)
            have hD1 := foG_RD hg hgd h1 h2 g143 (r := r)
            rw [eG] at hR1 hD1
            refine s_MD_follow_89 (vl0 := 2) (vc0 := 0) (vs0 := 0) h hw (by omega) (by omega) (by omega) (by rw [nI_1]; exact c_MD_push hw hR1 hD1 (by omega) (by omega)) ?_
            rintro _ _ _ ⟨rfl, rfl, rfl⟩
            exact s_MD_follow_96 h he (Nat.le_refl _) (Nat.le_refl _) hw (by rw [hx]; exact mm_Pr)
          all_goals exact absurd (by rw [o (by omega), es, g145]; exact Int32.le_refl _) q
        | succ d ih =>
          intro k hk
          have o : ∀ {a : Nat}, ¬ a = 146 → (foL g s k) a = g a := fun ha => foL_off _ ha
          have c0 : ¬ (foL g s k) 145 (nI s).toNatClampNeg ≤ nI k := by rw [o (by omega), es, g145, nI_leI (by omega) (by omega)]; omega
          refine s_MD_follow_29 (vl0 := 0) (vc0 := 0) (vs0 := 0) (P0 := fun _ _ _ => False) h hw is (fun q => absurd q c0) (fun q => absurd q c0) (by omega) (by omega) (by omega) (fun q => absurd q c0) (fun q => absurd q c0) (fun _ => ?_) (fun _ => mm_inI (by omega) (by omega)) (fun _ => ?_)
          · rw [nI_8, nI_add]; exact mm_inI (by omega) (by omega)
          · rw [nI_8, nI_add, nI_1, nI_clamp (n := k) (by omega), nI_clamp (n := 8 * s + k) (by omega), o (by omega), foL_step]
            exact ih (k + 1) (by omega)
      have := loop v 0 (by omega)
      rw [foL_0] at this
      exact this
  · rw [if_pos (Int32.not_le.mp q)] at hx
    rw [es]
    exact s_MD_follow_96 h he (Nat.le_refl _) (Nat.le_refl _) hw (by rw [hx]; exact mm_Pr)
theorem c_MD_begin (hw : mm_sh w) (hr : RS f n m R cl) (hd : RD f) : mm_C E y_MD_begin b_MD_begin 2 (some .boolean) 3 0 0 [mm_rf E 136] w f (mm_P (some (.int (bgF f n R).2)) w (bgF f n R).1) := by
  refine mm_start (by decide) rfl (Nat.le_of_ble_eq_true rfl) fun Γ h he => ?_
  have hr' := hr
  obtain ⟨_, n1, n3, hR, hR2, m4, hcl, ⟨t, t1, t2⟩, hc2, _⟩ := hr'
  obtain ⟨k1, k2⟩ := hcl t t1
  have hc : scF f < 4 ∧ (f 143 0 = 2 → f 142 2 = nI (scF f)) ∧ (¬ f 143 0 = 2 → scF f = 0) := by
    unfold scF
    by_cases q : f 143 0 = 2
    · obtain ⟨c, c1, c2⟩ := hc2 q
      rw [if_pos q, c2, nI_clamp (by omega)]
      exact ⟨c1, fun _ => rfl, fun z => absurd q z⟩
    · rw [if_neg q]
      exact ⟨by omega, fun z => absurd z q, fun _ => rfl⟩
  have hx : bgF f n R = if (nsF f (scF f) R).2 < 0 then ((nsF f (scF f) R).1, 0) else if (viF (nsF f (scF f) R).1).2 = 0 then ((viF (nsF f (scF f) R).1).1, 1)
    else (puF (n - 1) (loF (viF (nsF f (scF f) R).1).1 (nsF f (scF f) R).2.toNatClampNeg 0 (f 137 (f 142 1).toNatClampNeg).toNatClampNeg) 1, 1) := rfl
  rw [t2, nI_clamp (by omega), k1, nI_clamp (by omega)] at hx
  generalize scF f = c at hx hc
  refine s_MD_begin_0 (vl0 := 0) (vc0 := 0) (vs0 := 0) h hw (by omega) (by omega) (by omega) (c_MD_nextOfSource hw hR hR2 hc.1 hc.2.1 hc.2.2) ?_
  rintro _ _ _ ⟨rfl, rfl, rfl⟩
  refine s_MD_begin_4 (vl0 := 0) (vc0 := 0) (vs0 := 0) h hw (fun q => ?_) (by omega) (by omega) (by omega) (fun _ => c_MD_visit hw) (fun q => ?_)
  · rw [if_pos q] at hx
    refine s_MD_begin_38 h hw (fun _ => ?_) (fun z => absurd q z)
    exact s_MD_begin_47 h he (Nat.le_refl _) (Nat.le_refl _) hw (by rw [hx]; exact mm_Pr) rfl
  · rw [if_neg q] at hx
    rintro _ _ _ ⟨rfl, rfl, rfl⟩
    have fin : ∀ g : mm_F, bgF f n R = (g, 1) → mm_go E Γ 2 38 [(0, mm_rf E 136), (1, .int (nsF f c R).2)] [] w g 0 0 := fun g e => by
      refine s_MD_begin_38 h hw (fun z => absurd z q) (fun _ => ?_)
      exact s_MD_begin_47 h he (Nat.le_refl _) (Nat.le_refl _) hw (by rw [e]; exact mm_Pr) rfl
    by_cases q5 : (viF (nsF f c R).1).2 = 0
    · rw [if_pos q5] at hx
      exact s_MD_begin_13 (vl0 := 0) (vc0 := 0) (vs0 := 0) (P0 := fun _ _ _ => False) h hw (fun _ => fin _ hx) (fun z => absurd q5 z) (by omega) (by omega) (by omega) (fun z => absurd q5 z) (fun z => absurd q5 z)
    · rw [if_neg q5] at hx
      have fr := (nsF_fr f c R).tr (viF_fr (nsF f c R).1)
      have hg := hr.of fr
      have hgd := viF_RD (nsF_RD c R hd)
      have g142 : (viF (nsF f c R).1).1 142 1 = nI t := by rw [fr.row (a := 142) (by omega) (by omega)]; exact t2
      have g137 : (viF (nsF f c R).1).1 137 t = nI (cl t) := by rw [fr.row (a := 137) (by omega) (by omega)]; exact k1
      have hr2 : ∃ r, r < R ∧ (nsF f c R).2 = nI r := by
        rw [nsF_2] at q ⊢
        rcases nsB_val f c R with hv | hv
        · rw [hv] at q; exact absurd (by decide) q
        · exact hv
      obtain ⟨r, r1, r2⟩ := hr2
      rw [r2, nI_clamp (by omega)] at hx
      refine s_MD_begin_13 (vl0 := 0) (vc0 := 0) (vs0 := 0) h hw (fun z => absurd z q5) (fun _ => by rw [g142]; exact mm_inI (by omega) (by omega)) (by omega) (by omega) (by omega) (fun _ => by rw [g142, nI_clamp (by omega), g137, r2]; exact c_MD_load (fr := 0) hw (by omega) k2 (by omega)) (fun _ => ?_)
      rintro _ _ _ ⟨rfl, rfl, rfl⟩
      refine s_MD_begin_33 (vl0 := 2) (vc0 := 0) (vs0 := 0) h hw (by omega) (by omega) (by omega) (c_MD_push (s := 1) hw (hg.of (loF_fr _ _ _ _)) (loF_RD hgd (by omega)) (by omega) (by omega)) ?_
      rintro _ _ _ ⟨rfl, rfl, rfl⟩
      exact fin _ hx
end CMD8
