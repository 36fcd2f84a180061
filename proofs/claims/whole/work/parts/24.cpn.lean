/-! Contracts of the plan's look: what each method does, as a function of the memory. -/
def nx (f : mm_F) (lo hi : Int32) : mm_F × Int32 :=
  if f 53 2 = -1 then
    if f 53 1 ≤ f 53 6 ∨ f 54 (f 53 6).toNatClampNeg < lo ∨ ¬ f 54 (f 53 6).toNatClampNeg ≤ hi then (mm_up f 53 2 (f 53 6), -1)
    else (mm_up f 53 6 (f 53 6 + 1), f 54 (f 53 6).toNatClampNeg)
  else (f, -1)
def nC (f : mm_F) : mm_F := (nx f 0 (f 53 3 - 1)).1
def nA (f : mm_F) : mm_F := (nx f (-2147483648) 2147483647).1
def nXi (f : mm_F) (t : Nat) : mm_F := if (nx f 0 (f (4 + 12 * t) 0 - 1)).1 53 2 = -1 ∧ (nx f 0 (f (4 + 12 * t) 0 - 1)).1 (5 + 12 * t) (nx f 0 (f (4 + 12 * t) 0 - 1)).2.toNatClampNeg = 0 then mm_up (nx f 0 (f (4 + 12 * t) 0 - 1)).1 53 2 ((nx f 0 (f (4 + 12 * t) 0 - 1)).1 53 6 - 1) else (nx f 0 (f (4 + 12 * t) 0 - 1)).1
def itC : Nat → mm_F → mm_F
  | 0, f => f
  | k + 1, f => itC k (nC f)
def pkF (f : mm_F) : mm_F := mm_up (itC (nx f 1 8).2.toNatClampNeg (nx f 1 8).1) 53 3 (nx f 1 8).2
def jnF2 (f : mm_F) (t : Nat) (sum : Int32) : mm_F := mm_up (nC (nXi (if sum ≤ 8 then f else mm_up f 53 2 (f 53 6 - 1)) t)) 53 3 sum
def jnF (f : mm_F) : mm_F := if (nx f 0 (f 2 1 - 1)).1 53 2 = -1 then jnF2 (nx f 0 (f 2 1 - 1)).1 (nx f 0 (f 2 1 - 1)).2.toNatClampNeg ((nx f 0 (f 2 1 - 1)).1 53 3 + (nx f 0 (f 2 1 - 1)).1 (4 + 12 * (nx f 0 (f 2 1 - 1)).2.toNatClampNeg) 0) else (nx f 0 (f 2 1 - 1)).1
def bsF (f : mm_F) : mm_F := mm_up (mm_up (mm_up f (56 + 2 * (f 53 4).toNatClampNeg) 1 (f 53 6)) (56 + 2 * (f 53 4).toNatClampNeg) 2 (f 53 3)) 53 4 (f 53 4 + 1)
def srF3 (f : mm_F) (k : Int32) (t : Nat) : mm_F := mm_up (if k = 2 then nA (nA (nXi f t)) else f) 53 3 ((if k = 2 then nA (nA (nXi f t)) else f) (4 + 12 * t) 0)
def srF2 (f : mm_F) (k : Int32) : mm_F := if (nx f 0 (f 2 1 - 1)).1 53 2 = -1 then srF3 (nx f 0 (f 2 1 - 1)).1 k (nx f 0 (f 2 1 - 1)).2.toNatClampNeg else (nx f 0 (f 2 1 - 1)).1
def srF (f : mm_F) : mm_F := srF2 (mm_up (nx (bsF f) 1 2).1 (56 + 2 * (f 53 4).toNatClampNeg) 0 (nx (bsF f) 1 2).2) (nx (bsF f) 1 2).2
def stF2 (f : mm_F) (k : Int32) : mm_F :=
  if k = 3 then nA (nx (nC f) 0 5).1 else if k = 4 then pkF f else if k = 5 then jnF f else if k = 6 then (nx f 0 2147483647).1 else if k = 7 then (nx f 0 2147483647).1
  else if k = 8 then mm_up f 53 3 1 else if k = 9 then mm_up (nC f) 53 3 1 else if k = 10 then mm_up (nC f) 53 3 2 else f
def stF (f : mm_F) : mm_F := stF2 (mm_up (nx (bsF f) 3 10).1 (56 + 2 * (f 53 4).toNatClampNeg) 0 (nx (bsF f) 3 10).2) (nx (bsF f) 3 10).2
def itS : Nat → mm_F → mm_F
  | 0, f => f
  | k + 1, f => if f 53 1 ≤ f 53 6 then f else if f 53 2 = -1 then itS k (stF f) else f
def ltF (f : mm_F) : mm_F := itS 38 (srF (mm_up (mm_up (mm_up (mm_up f 53 2 (-1)) 53 3 0) 53 4 0) 53 6 0))
/-- the place lies within the words -/
def Pok (f : mm_F) : Prop := ∃ p len : Nat, f 53 6 = nI p ∧ f 53 1 = nI len ∧ p ≤ len ∧ len ≤ 40
/-- nothing but the fault, the width and the place has changed -/
def nfr (f g : mm_F) : Prop := ∀ a j, ¬ (a = 53 ∧ (j = 2 ∨ j = 3 ∨ j = 6)) → g a j = f a j
theorem nfr.rf (f : mm_F) : nfr f f := fun _ _ _ => rfl
theorem nfr.tr {f g h : mm_F} (h1 : nfr f g) (h2 : nfr g h) : nfr f h := fun a j q => (h2 a j q).trans (h1 a j q)
theorem nfr.up {f : mm_F} {j : Nat} {x : Int32} (hj : j = 2 ∨ j = 3 ∨ j = 6) : nfr f (mm_up f 53 j x) := fun a k q => mm_up_ne _ _ (fun z => q ⟨z.1, by rw [z.2]; exact hj⟩)
theorem Pok.up {f : mm_F} {a j : Nat} {x : Int32} (h : Pok f) (hj : ¬ (a = 53 ∧ (j = 1 ∨ j = 6))) : Pok (mm_up f a j x) := by
  obtain ⟨p, len, h1, h2, h3, h4⟩ := h
  exact ⟨p, len, by rw [mm_up_ne _ _ (by omega)]; exact h1, by rw [mm_up_ne _ _ (by omega)]; exact h2, h3, h4⟩
theorem nx_fr (f : mm_F) (lo hi : Int32) : nfr f (nx f lo hi).1 := by
  unfold nx
  split
  · split
    · exact nfr.up (Or.inl rfl)
    · exact nfr.up (Or.inr (Or.inr rfl))
  · exact nfr.rf f
theorem nx_pok {f : mm_F} {lo hi : Int32} (h : Pok f) : Pok (nx f lo hi).1 := by
  unfold nx
  split
  · split
    · exact h.up (by omega)
    · rename_i h1 h2
      obtain ⟨p, len, e1, e2, e3, e4⟩ := h
      have h3 : ¬ f 53 1 ≤ f 53 6 := fun q => h2 (Or.inl q)
      rw [e1, e2, nI_leI (by omega) (by omega)] at h3
      exact ⟨p + 1, len, by show mm_up f 53 6 (f 53 6 + 1) 53 6 = _; rw [mm_up_eq, e1, nI_1], by show mm_up f 53 6 (f 53 6 + 1) 53 1 = _; rw [mm_up_ne _ _ (by omega)]; exact e2, by omega, e4⟩
  · exact h
/-- where no fault is found, the word is within the bounds -/
theorem nx_res {f : mm_F} {lo hi : Int32} (h : Pok f) (h2 : (nx f lo hi).1 53 2 = -1) : f 53 2 = -1 ∧ ¬ (nx f lo hi).2 < lo ∧ (nx f lo hi).2 ≤ hi := by
  unfold nx at h2 ⊢
  by_cases c1 : f 53 2 = -1
  · rw [if_pos c1] at h2 ⊢
    by_cases c2 : f 53 1 ≤ f 53 6 ∨ f 54 (f 53 6).toNatClampNeg < lo ∨ ¬ f 54 (f 53 6).toNatClampNeg ≤ hi
    · rw [if_pos c2] at h2
      obtain ⟨p, len, e1, e2, e3, e4⟩ := h
      have h2' : mm_up f 53 2 (f 53 6) 53 2 = -1 := h2
      rw [mm_up_eq, e1] at h2'
      have h5 := congrArg Int32.toInt h2'
      rw [nI_toInt (by omega)] at h5
      have h6 : (-1 : Int32).toInt = -1 := by decide
      omega
    · rw [if_neg c2]
      exact ⟨c1, fun q => c2 (Or.inr (Or.inl q)), Decidable.byContradiction fun q => c2 (Or.inr (Or.inr q))⟩
  · rw [if_neg c1] at h2
    exact absurd h2 c1
theorem nC_fr (f : mm_F) : nfr f (nC f) := nx_fr _ _ _
theorem nA_fr (f : mm_F) : nfr f (nA f) := nx_fr _ _ _
theorem nC_pok {f : mm_F} (h : Pok f) : Pok (nC f) := nx_pok h
theorem nA_pok {f : mm_F} (h : Pok f) : Pok (nA f) := nx_pok h
theorem nXi_fr (f : mm_F) (t : Nat) : nfr f (nXi f t) := by
  unfold nXi
  split
  · exact (nx_fr _ _ _).tr (nfr.up (Or.inl rfl))
  · exact nx_fr _ _ _
theorem nXi_pok {f : mm_F} {t : Nat} (h : Pok f) : Pok (nXi f t) := by
  unfold nXi
  split
  · exact (nx_pok h).up (by omega)
  · exact nx_pok h
theorem itC_fr : ∀ (k : Nat) (f : mm_F), nfr f (itC k f)
  | 0, f => nfr.rf f
  | k + 1, f => (nC_fr f).tr (itC_fr k (nC f))
theorem itC_pok : ∀ (k : Nat) {f : mm_F}, Pok f → Pok (itC k f)
  | 0, _, h => h
  | k + 1, _, h => itC_pok k (nC_pok h)
theorem pkF_fr (f : mm_F) : nfr f (pkF f) := ((nx_fr _ _ _).tr (itC_fr _ _)).tr (nfr.up (Or.inr (Or.inl rfl)))
theorem pkF_pok {f : mm_F} (h : Pok f) : Pok (pkF f) := (itC_pok _ (nx_pok h)).up (by omega)
theorem jnF2_fr (f : mm_F) (t : Nat) (s : Int32) : nfr f (jnF2 f t s) := by
  unfold jnF2
  refine nfr.tr ?_ (nfr.up (Or.inr (Or.inl rfl)))
  refine nfr.tr ?_ (nC_fr _)
  refine nfr.tr ?_ (nXi_fr _ _)
  split
  · exact nfr.rf f
  · exact nfr.up (Or.inl rfl)
theorem jnF2_pok {f : mm_F} {t : Nat} {s : Int32} (h : Pok f) : Pok (jnF2 f t s) := by
  unfold jnF2
  refine Pok.up (nC_pok (nXi_pok ?_)) (by omega)
  split
  · exact h
  · exact h.up (by omega)
theorem jnF_fr (f : mm_F) : nfr f (jnF f) := by
  unfold jnF
  split
  · exact (nx_fr _ _ _).tr (jnF2_fr _ _ _)
  · exact nx_fr _ _ _
theorem jnF_pok {f : mm_F} (h : Pok f) : Pok (jnF f) := by
  unfold jnF
  split
  · exact jnF2_pok (nx_pok h)
  · exact nx_pok h
theorem srF2_fr (f : mm_F) (k : Int32) : nfr f (srF2 f k) := by
  unfold srF2 srF3
  split
  · refine (nx_fr f 0 (f 2 1 - 1)).tr (nfr.tr ?_ (nfr.up (Or.inr (Or.inl rfl))))
    split
    · exact ((nXi_fr _ _).tr (nA_fr _)).tr (nA_fr _)
    · exact nfr.rf _
  · exact nx_fr _ _ _
theorem srF2_pok {f : mm_F} {k : Int32} (h : Pok f) : Pok (srF2 f k) := by
  unfold srF2 srF3
  split
  · refine Pok.up ?_ (by omega)
    split
    · exact nA_pok (nA_pok (nXi_pok (nx_pok h)))
    · exact nx_pok h
  · exact nx_pok h
theorem stF2_fr (f : mm_F) (k : Int32) : nfr f (stF2 f k) := by
  unfold stF2
  split; · exact ((nC_fr _).tr (nx_fr _ _ _)).tr (nA_fr _)
  split; · exact pkF_fr f
  split; · exact jnF_fr f
  split; · exact nx_fr _ _ _
  split; · exact nx_fr _ _ _
  split; · exact nfr.up (Or.inr (Or.inl rfl))
  split; · exact (nC_fr _).tr (nfr.up (Or.inr (Or.inl rfl)))
  split; · exact (nC_fr _).tr (nfr.up (Or.inr (Or.inl rfl)))
  exact nfr.rf f
theorem stF2_pok {f : mm_F} {k : Int32} (h : Pok f) : Pok (stF2 f k) := by
  unfold stF2
  split; · exact nA_pok (nx_pok (nC_pok h))
  split; · exact pkF_pok h
  split; · exact jnF_pok h
  split; · exact nx_pok h
  split; · exact nx_pok h
  split; · exact h.up (by omega)
  split; · exact (nC_pok h).up (by omega)
  split; · exact (nC_pok h).up (by omega)
  exact h
/-- nothing but the plan's own numbers and the steps' first three fields has changed -/
def pfr (f g : mm_F) : Prop := ∀ a j, ¬ (a = 53 ∧ (j = 2 ∨ j = 3 ∨ j = 4 ∨ j = 6)) → ¬ (56 ≤ a ∧ a < 134 ∧ j ≤ 2) → g a j = f a j
theorem pfr.tr {f g h : mm_F} (h1 : pfr f g) (h2 : pfr g h) : pfr f h := fun a j q1 q2 => (h2 a j q1 q2).trans (h1 a j q1 q2)
theorem nfr.p {f g : mm_F} (h : nfr f g) : pfr f g := fun a j q1 _ => h a j (by omega)
theorem pfr.rf (f : mm_F) : pfr f f := fun _ _ _ _ => rfl
theorem pfr.up3 {f : mm_F} {s j : Nat} {x : Int32} (hs : s < 39) (hj : j ≤ 2) : pfr f (mm_up f (56 + 2 * s) j x) := fun a k _ q => mm_up_ne _ _ (by omega)
theorem pfr.up {f : mm_F} {j : Nat} {x : Int32} (hj : j = 2 ∨ j = 3 ∨ j = 4 ∨ j = 6) : pfr f (mm_up f 53 j x) := fun a k q _ => mm_up_ne _ _ (by omega)
theorem bsF_fr {f : mm_F} {c : Nat} (hc : f 53 4 = nI c) (hc2 : c < 39) : pfr f (bsF f) := by
  unfold bsF
  rw [hc, nI_clamp (by omega)]
  exact ((pfr.up3 hc2 (by omega)).tr (pfr.up3 hc2 (by omega))).tr (pfr.up (by omega))
theorem bsF_pok {f : mm_F} {c : Nat} (hc : f 53 4 = nI c) (hc2 : c < 39) (h : Pok f) : Pok (bsF f) := by
  unfold bsF
  rw [hc, nI_clamp (by omega)]
  exact ((h.up (by omega)).up (by omega)).up (by omega)
theorem bsF_cnt {f : mm_F} : (bsF f) 53 4 = f 53 4 + 1 := mm_up_eq _ _ _ _
theorem srF_fr {f : mm_F} {c : Nat} (hc : f 53 4 = nI c) (hc2 : c < 39) : pfr f (srF f) := by
  unfold srF
  rw [hc, nI_clamp (by omega)]
  exact (((bsF_fr hc hc2).tr (nx_fr _ _ _).p).tr (pfr.up3 hc2 (by omega))).tr (srF2_fr _ _).p
theorem srF_pok {f : mm_F} {c : Nat} (hc : f 53 4 = nI c) (hc2 : c < 39) (h : Pok f) : Pok (srF f) := by
  unfold srF
  rw [hc, nI_clamp (by omega)]
  exact srF2_pok ((nx_pok (bsF_pok hc hc2 h)).up (by omega))
theorem srF_cnt {f : mm_F} {c : Nat} (hc : f 53 4 = nI c) (hc2 : c < 39) : (srF f) 53 4 = nI (c + 1) := by
  unfold srF
  rw [srF2_fr _ _ 53 4 (by omega), mm_up_ne _ _ (by omega), nx_fr _ _ _ 53 4 (by omega), bsF_cnt, hc, nI_1]
theorem stF_fr {f : mm_F} {c : Nat} (hc : f 53 4 = nI c) (hc2 : c < 39) : pfr f (stF f) := by
  unfold stF
  rw [hc, nI_clamp (by omega)]
  exact (((bsF_fr hc hc2).tr (nx_fr _ _ _).p).tr (pfr.up3 hc2 (by omega))).tr (stF2_fr _ _).p
theorem stF_pok {f : mm_F} {c : Nat} (hc : f 53 4 = nI c) (hc2 : c < 39) (h : Pok f) : Pok (stF f) := by
  unfold stF
  rw [hc, nI_clamp (by omega)]
  exact stF2_pok ((nx_pok (bsF_pok hc hc2 h)).up (by omega))
theorem stF_cnt {f : mm_F} {c : Nat} (hc : f 53 4 = nI c) (hc2 : c < 39) : (stF f) 53 4 = nI (c + 1) := by
  unfold stF
  rw [stF2_fr _ _ 53 4 (by omega), mm_up_ne _ _ (by omega), nx_fr _ _ _ 53 4 (by omega), bsF_cnt, hc, nI_1]
theorem itS_fr : ∀ (k : Nat) {f : mm_F} {c : Nat}, f 53 4 = nI c → c + k ≤ 39 → pfr f (itS k f)
  | 0, f, _, _, _ => pfr.rf f
  | k + 1, f, c, hc, hk => by
    unfold itS
    split
    · exact pfr.rf f
    · split
      · exact (stF_fr hc (by omega)).tr (itS_fr k (stF_cnt hc (by omega)) (by omega))
      · exact pfr.rf f
/-- what the look leans on in the tables -/
def Tok (f : mm_F) : Prop := ∃ m : Nat, m ≤ 4 ∧ f 2 1 = nI m ∧ ∀ t, t < m → ∃ c : Nat, c ≤ 4 ∧ f (4 + 12 * t) 0 = nI c
theorem Tok.p {f g : mm_F} (h : Tok f) (hp : pfr f g) : Tok g := by
  obtain ⟨m, h1, h2, h3⟩ := h
  exact ⟨m, h1, by rw [hp 2 1 (by omega) (by omega)]; exact h2, fun t ht => by
    obtain ⟨c, a, b⟩ := h3 t ht
    exact ⟨c, a, by rw [hp _ 0 (by omega) (by omega)]; exact b⟩⟩
section CPN
variable {E : mm_E} {w : mm_W} {f : mm_F}
theorem c_PN_next {lo hi : Int32} (hw : mm_sh w) (hp : Pok f) : mm_C E y_PN_next b_PN_next 3 (some .int) 0 0 0 [mm_rf E 53, .int lo, .int hi] w f (mm_P (some (.int (nx f lo hi).2)) w (nx f lo hi).1) := by
  refine mm_start (by decide) rfl (Nat.le_of_ble_eq_true rfl) fun Γ h he => ?_
  obtain ⟨p, len, e1, e2, e3, e4⟩ := hp
  have bad : f 53 2 = -1 → (f 53 1 ≤ f 53 6 ∨ f 54 (f 53 6).toNatClampNeg < lo ∨ ¬ f 54 (f 53 6).toNatClampNeg ≤ hi) → mm_go E Γ 3 47 [(0, mm_rf E 53), (1, .int lo), (2, .int hi)] [] w f 0 0 := fun c1 c2 => by
    refine s_PN_next_47 h he (Nat.le_refl _) (Nat.le_refl _) hw ?_
    unfold nx
    rw [if_pos c1, if_pos c2]
    exact mm_Pr
  refine s_PN_next_0 h he (Nat.le_refl _) (Nat.le_refl _) hw (fun c1 c2 => bad c1 (Or.inl c2)) (fun c1 c2 => ?_) (fun c1 c2 c3 => bad c1 (Or.inr (Or.inl c3))) (fun c1 c2 c3 c4 => ?_) (fun c1 c2 c3 c4 => ?_) (fun c1 c2 c3 c4 => bad c1 (Or.inr (Or.inr c4))) (fun c1 => ?_)
  · rw [e1, e2, nI_leI (by omega) (by omega)] at c2
    rw [e1]
    exact mm_inI (by omega) (by omega)
  · rw [e1, e2, nI_leI (by omega) (by omega)] at c2
    rw [mm_up_eq, e1, nI_1, nI_pred]
    exact mm_inI (by omega) (by omega)
  · have hx : nx f lo hi = (mm_up f 53 6 (f 53 6 + 1), f 54 (f 53 6).toNatClampNeg) := by
      unfold nx
      rw [if_pos c1, if_neg (fun q => by
        rcases q with q | q | q
        · exact c2 q
        · exact c3 q
        · exact q c4)]
    rw [hx, mm_up_eq, mm_up_ne _ _ (by omega)]
    have : f 53 6 + 1 - 1 = f 53 6 := by rw [e1, nI_1, nI_pred]
    rw [this]
    exact mm_Pr
  · have hx : nx f lo hi = (f, -1) := by unfold nx; rw [if_neg c1]
    rw [hx]
    exact mm_Pr
theorem c_PN_nextColumn (hw : mm_sh w) (hp : Pok f) : mm_C E y_PN_nextColumn b_PN_nextColumn 1 none 1 0 0 [mm_rf E 53] w f (mm_P none w (nC f)) := by
  refine mm_start (by decide) rfl (Nat.le_of_ble_eq_true rfl) fun Γ h he => ?_
  refine s_PN_nextColumn_0 (vl0 := 0) (vc0 := 0) (vs0 := 0) h hw (by omega) (by omega) (by omega) (c_PN_next hw hp) ?_
  rintro _ _ _ ⟨rfl, rfl, rfl⟩
  exact s_PN_nextColumn_11 h he (Nat.le_refl _) (Nat.le_refl _) hw mm_Pr
theorem c_PN_nextAny (hw : mm_sh w) (hp : Pok f) : mm_C E y_PN_nextAny b_PN_nextAny 1 none 1 0 0 [mm_rf E 53] w f (mm_P none w (nA f)) := by
  refine mm_start (by decide) rfl (Nat.le_of_ble_eq_true rfl) fun Γ h he => ?_
  refine s_PN_nextAny_0 (vl0 := 0) (vc0 := 0) (vs0 := 0) h hw (by omega) (by omega) (by omega) (c_PN_next hw hp) ?_
  rintro _ _ _ ⟨rfl, rfl, rfl⟩
  exact s_PN_nextAny_8 h he (Nat.le_refl _) (Nat.le_refl _) hw mm_Pr
theorem c_PN_nextIndexed {t c : Nat} (hw : mm_sh w) (ht : t < 4) (hp : Pok f) (hc : f (4 + 12 * t) 0 = nI c) (hc2 : c ≤ 4) : mm_C E y_PN_nextIndexed b_PN_nextIndexed 3 none 1 0 0 [mm_rf E 53, mm_rf E (4 + 12 * t)] w f (mm_P none w (nXi f t)) := by
  refine mm_start (by decide) rfl (Nat.le_of_ble_eq_true rfl) fun Γ h he => ?_
  have hx : nXi f t = if (nx f 0 (f (4 + 12 * t) 0 - 1)).1 53 2 = -1 ∧ (nx f 0 (f (4 + 12 * t) 0 - 1)).1 (5 + 12 * t) (nx f 0 (f (4 + 12 * t) 0 - 1)).2.toNatClampNeg = 0 then mm_up (nx f 0 (f (4 + 12 * t) 0 - 1)).1 53 2 ((nx f 0 (f (4 + 12 * t) 0 - 1)).1 53 6 - 1) else (nx f 0 (f (4 + 12 * t) 0 - 1)).1 := rfl
  have hres := nx_res (lo := 0) (hi := f (4 + 12 * t) 0 - 1) hp
  refine s_PN_nextIndexed_0 (vl0 := 0) (vc0 := 0) (vs0 := 0) h hw ht (by omega) (by omega) (by omega) (c_PN_next hw hp) ?_
  rintro _ _ _ ⟨rfl, rfl, rfl⟩
  generalize nx f 0 (f (4 + 12 * t) 0 - 1) = g at hx hres ⊢
  have z39 : ∀ (k : mm_F) (x : Int32), nXi f t = k → mm_go E Γ 3 39 [(0, mm_rf E 53), (1, mm_rf E (4 + 12 * t)), (2, .int x)] [] w k 0 0 := fun k x e =>
    s_PN_nextIndexed_39 h he (Nat.le_refl _) (Nat.le_refl _) hw ht (by rw [e]; exact mm_Pr)
  refine s_PN_nextIndexed_11 h hw ht (fun c1 => z39 _ _ ?_) (fun c1 => ?_) (fun c1 c2 => z39 _ _ ?_) (fun c1 c2 => z39 _ _ ?_)
  · rw [hx, if_neg (fun q => c1 q.1)]
  · obtain ⟨-, r1, r2⟩ := hres c1
    rw [hc] at r2
    have hlt := Int32.not_lt.mp r1
    rw [vp_in_iff]
    rw [Int32.le_iff_toInt_le, Int32.toInt_zero] at hlt
    refine ⟨hlt, ?_⟩
    rw [Int32.le_iff_toInt_le] at r2
    cases c with
    | zero =>
      have : (nI 0 - 1 : Int32).toInt = -1 := by decide
      omega
    | succ c =>
      rw [nI_pred, nI_toInt (by omega)] at r2
      omega
  · rw [hx, if_neg (fun q => c2 q.2)]
  · rw [hx, if_pos ⟨c1, c2⟩]
theorem c_PN_beginStep {c : Nat} (hw : mm_sh w) (hc : f 53 4 = nI c) (hc2 : c < 39) : mm_C E y_PN_beginStep b_PN_beginStep 2 (some (.object "PlannedTables$Step")) 0 0 0 [mm_rf E 53] w f (mm_P (some (mm_rf E (56 + 2 * c))) w (bsF f)) := by
  refine mm_start (by decide) rfl (Nat.le_of_ble_eq_true rfl) fun Γ h he => ?_
  have e1 := nI_clamp (n := c) (by omega)
  refine s_PN_beginStep_0 h he (Nat.le_refl _) (Nat.le_refl _) hw (by rw [hc]; exact mm_inI hc2 (by omega)) ?_
  unfold bsF
  rw [hc, e1, mm_up_ne (c := 53) (k := 3) _ _ (by omega), mm_up_ne (c := 53) (k := 4) _ _ (by omega), mm_up_ne (c := 53) (k := 4) _ _ (by omega), hc]
  exact mm_Pr
theorem c_PN_lookAtPick (hw : mm_sh w) (hp : Pok f) : mm_C E y_PN_lookAtPick b_PN_lookAtPick 3 none 2 0 0 [mm_rf E 53] w f (mm_P none w (pkF f)) := by
  refine mm_start (by decide) rfl (Nat.le_of_ble_eq_true rfl) fun Γ h he => ?_
  have hx : pkF f = mm_up (itC (nx f 1 8).2.toNatClampNeg (nx f 1 8).1) 53 3 (nx f 1 8).2 := rfl
  have hpk := nx_pok (lo := 1) (hi := 8) hp
  have hval : (nx f 1 8).2 = -1 ∨ ∃ m : Nat, m ≤ 8 ∧ (nx f 1 8).2 = nI m := by
    unfold nx
    split
    · split
      · exact Or.inl rfl
      · rename_i c1 c2
        have h1 : ¬ f 54 (f 53 6).toNatClampNeg < 1 := fun q => c2 (Or.inr (Or.inl q))
        have h2 : f 54 (f 53 6).toNatClampNeg ≤ 8 := Decidable.byContradiction fun q => c2 (Or.inr (Or.inr q))
        have h3 : ¬ f 54 (f 53 6).toNatClampNeg < 0 := fun q => h1 (by
          rw [Int32.lt_iff_toInt_lt] at q ⊢
          have : (1 : Int32).toInt = 1 := by decide
          rw [Int32.toInt_zero] at q
          omega)
        exact Or.inr (nI_of2 (M := 8) (n := 8) (by decide) h3 h2)
    · exact Or.inl rfl
  refine s_PN_lookAtPick_0 (vl0 := 0) (vc0 := 0) (vs0 := 0) h hw (by omega) (by omega) (by omega) (c_PN_next hw hp) ?_
  rintro _ _ _ ⟨rfl, rfl, rfl⟩
  generalize nx f 1 8 = g at hx hpk hval ⊢
  refine s_PN_lookAtPick_7 h hw ?_
  rcases hval with hv | ⟨m, hm, hv⟩
  · have e0 : (-1 : Int32).toNatClampNeg = 0 := by decide
    rw [hv, e0] at hx
    rw [hv]
    refine s_PN_lookAtPick_10 (vl0 := 0) (vc0 := 0) (vs0 := 0) (P0 := fun _ _ _ => False) h he (Nat.le_refl _) (Nat.le_refl _) hw (fun _ => by rw [hx]; exact mm_Pr) (by omega) (by omega) (by omega) (fun q => absurd (by decide) q) (fun q => absurd (by decide) q)
  · rw [hv, nI_clamp (by omega)] at hx
    rw [hv]
    have loop : ∀ d i, i + d = m → ∀ k : mm_F, Pok k → itC d k = itC m g.1 → mm_go E Γ 3 10 [(0, mm_rf E 53), (1, .int (nI m)), (2, .int (nI i))] [] w k 0 0 := by
      intro d
      induction d with
      | zero =>
        intro i hi k hk e
        have hi' : i = m := by omega
        subst hi'
        have e' : k = itC i g.1 := e
        refine s_PN_lookAtPick_10 (vl0 := 0) (vc0 := 0) (vs0 := 0) (P0 := fun _ _ _ => False) h he (Nat.le_refl _) (Nat.le_refl _) hw (fun _ => by rw [hx, ← e']; exact mm_Pr) (by omega) (by omega) (by omega) (fun q => absurd (Int32.le_refl _) q) (fun q => absurd (Int32.le_refl _) q)
      | succ d ih =>
        intro i hi k hk e
        refine s_PN_lookAtPick_10 (vl0 := 1) (vc0 := 0) (vs0 := 0) h he (Nat.le_refl _) (Nat.le_refl _) hw (fun q => ?_) (by omega) (by omega) (by omega) (fun _ => c_PN_nextColumn hw hk) (fun _ => ?_)
        · rw [nI_leI (by omega) (by omega)] at q; omega
        · rintro _ _ _ ⟨rfl, rfl, rfl⟩
          refine s_PN_lookAtPick_19 h hw ?_
          rw [nI_1]
          exact ih (i + 1) (by omega) _ (nC_pok hk) e
    exact loop m 0 (by omega) g.1 hpk rfl
theorem Tok.n {f g : mm_F} (h : Tok f) (hp : nfr f g) : Tok g := h.p hp.p
theorem tok_word {m : Nat} {x : Int32} (hm : m ≤ 4) (h1 : ¬ x < 0) (h2 : x ≤ nI m - 1) : ∃ t : Nat, t < m ∧ x = nI t := by
  cases m with
  | zero =>
    rw [Int32.lt_iff_toInt_lt, Int32.toInt_zero] at h1
    rw [Int32.le_iff_toInt_le] at h2
    have : (nI 0 - 1 : Int32).toInt = -1 := by decide
    omega
  | succ m =>
    rw [nI_pred] at h2
    obtain ⟨j, hj, e⟩ := nI_of2 (M := nI m) (n := m) (nI_toInt (by omega)) h1 h2
    exact ⟨j, by omega, e⟩
theorem c_PN_lookAtJoin (hw : mm_sh w) (hp : Pok f) (hT : Tok f) : mm_C E y_PN_lookAtJoin b_PN_lookAtJoin 4 none 2 0 0 [mm_rf E 53, mm_rf E 2] w f (mm_P none w (jnF f)) := by
  refine mm_start (by decide) rfl (Nat.le_of_ble_eq_true rfl) fun Γ h he => ?_
  have hx : jnF f = if (nx f 0 (f 2 1 - 1)).1 53 2 = -1 then jnF2 (nx f 0 (f 2 1 - 1)).1 (nx f 0 (f 2 1 - 1)).2.toNatClampNeg ((nx f 0 (f 2 1 - 1)).1 53 3 + (nx f 0 (f 2 1 - 1)).1 (4 + 12 * (nx f 0 (f 2 1 - 1)).2.toNatClampNeg) 0) else (nx f 0 (f 2 1 - 1)).1 := rfl
  have hres := nx_res (lo := 0) (hi := f 2 1 - 1) hp
  have hpg := nx_pok (lo := 0) (hi := f 2 1 - 1) hp
  have hTg := hT.n (nx_fr f 0 (f 2 1 - 1))
  have hfg := nx_fr f 0 (f 2 1 - 1)
  refine s_PN_lookAtJoin_0 (vl0 := 0) (vc0 := 0) (vs0 := 0) h hw (by omega) (by omega) (by omega) (c_PN_next hw hp) ?_
  rintro _ _ _ ⟨rfl, rfl, rfl⟩
  generalize nx f 0 (f 2 1 - 1) = g at hx hres hpg hTg hfg ⊢
  obtain ⟨m, hm, hm1, hm2⟩ := hT
  have hword : g.1 53 2 = -1 → ∃ t : Nat, t < m ∧ g.2 = nI t := fun c1 => by
    obtain ⟨-, r1, r2⟩ := hres c1
    rw [hm1] at r2
    exact tok_word hm r1 r2
  have rest : ∀ (k : mm_F) (t c : Nat) (sum : Int32), t < m → g.2 = nI t → Pok k → nfr g.1 k → g.1 (4 + 12 * t) 0 = nI c → c ≤ 4 → jnF f = mm_up (nC (nXi k t)) 53 3 sum → mm_go E Γ 4 52 [(0, mm_rf E 53), (1, mm_rf E 2), (2, .int g.2), (3, .int sum)] [] w k 0 0 := by
    intro k t c sum ht e hk hfr hc hc2 ej
    rw [e]
    have et := nI_clamp (n := t) (by omega)
    refine s_PN_lookAtJoin_52 (vl0 := 1) (vc0 := 0) (vs0 := 0) h hw (mm_inI (by omega) (by omega)) (by omega) (by omega) (by omega) (by rw [et]; exact c_PN_nextIndexed hw (by omega) hk (by rw [hfr _ 0 (by omega)]; exact hc) hc2) ?_
    rintro _ _ _ ⟨rfl, rfl, rfl⟩
    refine s_PN_lookAtJoin_62 (vl0 := 1) (vc0 := 0) (vs0 := 0) h hw (by omega) (by omega) (by omega) (c_PN_nextColumn hw (nXi_pok hk)) ?_
    rintro _ _ _ ⟨rfl, rfl, rfl⟩
    exact s_PN_lookAtJoin_66 h he (Nat.le_refl _) (Nat.le_refl _) hw (by rw [ej]; exact mm_Pr)
  refine s_PN_lookAtJoin_11 h he (Nat.le_refl _) (Nat.le_refl _) hw (fun c1 => ?_) (fun c1 c2 => ?_) (fun c1 c2 => ?_) (fun c1 => ?_)
  · obtain ⟨t, ht, e⟩ := hword c1
    rw [e]; exact mm_inI (by omega) (by omega)
  · obtain ⟨t, ht, e⟩ := hword c1
    obtain ⟨c, hc, hc1⟩ := hm2 t ht
    have et : g.2.toNatClampNeg = t := by rw [e]; exact nI_clamp (by omega)
    rw [if_pos c1, et] at hx
    rw [et] at c2 ⊢
    refine rest g.1 t c _ ht e hpg (nfr.rf _) (by rw [hfg _ 0 (by omega)]; exact hc1) hc ?_
    rw [hx]
    unfold jnF2
    rw [if_pos c2]
  · obtain ⟨t, ht, e⟩ := hword c1
    obtain ⟨c, hc, hc1⟩ := hm2 t ht
    have et : g.2.toNatClampNeg = t := by rw [e]; exact nI_clamp (by omega)
    rw [if_pos c1, et] at hx
    rw [et] at c2 ⊢
    refine rest _ t c _ ht e (hpg.up (by omega)) (nfr.up (Or.inl rfl)) (by rw [hfg _ 0 (by omega)]; exact hc1) hc ?_
    rw [hx]
    unfold jnF2
    rw [if_neg c2]
  · rw [if_neg c1] at hx
    rw [hx]
    exact mm_Pr
end CPN
