/-! Contracts of the reference: reading a plan. -/
def wd (f : mm_F) (W p : Nat) : Int32 := if W ≤ p then 0 else f 142 p
def dm (f : mm_F) (W p : Nat) (b : Bool) : mm_F := if 0 ≤ f 136 11 then f else if W ≤ p then mm_up f 136 11 (nI W) else if b = true then f else mm_up f 136 11 (nI p)
def iC (f : mm_F) (x : Int32) : Bool := decide (¬ x < 0 ∧ ¬ f 136 15 ≤ x)
def btw (lo hi x : Int32) : Bool := decide (¬ x < lo ∧ ¬ hi < x)
def ixC (f : mm_F) (t c : Int32) (n : Nat) : Bool := inb c n && decide (¬ f 138 (4 * t.toNatClampNeg + c.toNatClampNeg) = 0)
def rso1 (f : mm_F) (W : Nat) : mm_F := dm (mm_up (mm_up f 143 0 (wd f W 0)) 144 0 1) W 0 (decide (wd f W 0 = 1 ∨ wd f W 0 = 2))
def rso2 (f : mm_F) (W m : Nat) : mm_F := dm (rso1 f W) W 1 (inb (wd f W 1) m)
def rso4 (g : mm_F) (W : Nat) (cl : Nat → Nat) (t : Int32) : mm_F := if g 143 0 = 2 then dm (dm (dm g W 2 (ixC g t (wd g W 2) (cl t.toNatClampNeg))) W 3 true) W 4 true else g
def rso (f : mm_F) (W m : Nat) (cl : Nat → Nat) : mm_F := if (rso2 f W m) 136 11 < 0 then rso4 (mm_up (rso2 f W m) 136 15 ((rso2 f W m) 137 (wd f W 1).toNatClampNeg)) W cl (wd f W 1) else rso2 f W m
def rcl (f : mm_F) (W p : Nat) : mm_F := dm f W p (iC f (wd f W p))
def rcL (W p : Nat) : Nat → mm_F → mm_F
  | 0, g => g
  | k + 1, g => rcl (rcL W p k g) W (p + (k + 1))
def rcF (f : mm_F) (W p : Nat) : mm_F × Nat := if (dm f W p (btw 1 8 (wd f W p))) 136 11 < 0 then (mm_up (rcL W p (wd f W p).toNatClampNeg (dm f W p (btw 1 8 (wd f W p)))) 136 15 (wd f W p), p + (wd f W p).toNatClampNeg + 1) else (dm f W p (btw 1 8 (wd f W p)), p)
def rjB (f : mm_F) (m : Nat) (t : Int32) : Bool := inb t m && decide (¬ 8 < f 136 15 + f 137 t.toNatClampNeg)
def rj1 (g : mm_F) (W p : Nat) (cl : Nat → Nat) (t : Int32) : mm_F := rcl (dm g W (p + 1) (ixC g t (wd g W (p + 1)) (cl t.toNatClampNeg))) W (p + 2)
def rj2 (h : mm_F) (t : Int32) : mm_F := mm_up h 136 15 (h 136 15 + h 137 t.toNatClampNeg)
def rjF (f : mm_F) (W m : Nat) (cl : Nat → Nat) (p : Nat) : mm_F × Nat := if (dm f W p (rjB f m (wd f W p))) 136 11 < 0 then (rj2 (rj1 (dm f W p (rjB f m (wd f W p))) W p cl (wd f W p)) (wd f W p), p + 3) else (dm f W p (rjB f m (wd f W p)), p)
def rsF (f : mm_F) (W m : Nat) (cl : Nat → Nat) (op : Int32) (p : Nat) : mm_F × Nat :=
  if op = 3 then (dm (dm (rcl f W p) W (p + 1) (btw 0 5 (wd f W (p + 1)))) W (p + 2) true, p + 3) else if op = 4 then rcF f W p else if op = 5 then rjF f W m cl p
  else if op = 6 ∨ op = 7 then (dm f W p (decide (¬ wd f W p < 0)), p + 1) else if op = 8 then (mm_up f 136 15 1, p) else if op = 9 then (mm_up (rcl f W p) 136 15 1, p + 1) else (mm_up (rcl f W p) 136 15 2, p + 1)
def rpS (f : mm_F) (s p : Nat) (op : Int32) : mm_F := mm_up (mm_up (mm_up (mm_up f 143 s op) 144 s (nI (p + 1))) 145 s (f 136 15)) 136 10 (nI (s + 1))
def rpL (W m : Nat) (cl : Nat → Nat) : Nat → mm_F → Nat → mm_F
  | 0, f, _ => f
  | k + 1, f, p => if f 136 11 < 0 ∧ p < W then (if (dm f W p (btw 3 10 (f 142 p))) 136 11 < 0 then rpL W m cl k (rsF (rpS f (f 136 10).toNatClampNeg p (f 142 p)) W m cl (f 142 p) (p + 1)).1 (rsF (rpS f (f 136 10).toNatClampNeg p (f 142 p)) W m cl (f 142 p) (p + 1)).2 else dm f W p (btw 3 10 (f 142 p))) else f
def rp0 (f : mm_F) (W m : Nat) (cl : Nat → Nat) : mm_F := rso (mm_up (mm_up (mm_up f 136 11 (-1)) 136 10 1) 136 15 0) W m cl
def rpF (f : mm_F) (W m : Nat) (cl : Nat → Nat) : mm_F := rpL W m cl 40 (rp0 f W m cl) (if (rp0 f W m cl) 143 0 = 2 then 5 else 2)
/-- what reading a plan may rely on -/
def Mk (f : mm_F) (W m : Nat) (cl : Nat → Nat) : Prop := f 136 8 = nI W ∧ W ≤ 40 ∧ f 136 1 = nI m ∧ m ≤ 4 ∧ ∀ t, t < m → f 137 t = nI (cl t) ∧ cl t ≤ 4
theorem Mk.hW {f : mm_F} {W m : Nat} {cl : Nat → Nat} (h : Mk f W m cl) : f 136 8 = nI W := h.1
theorem Mk.hW2 {f : mm_F} {W m : Nat} {cl : Nat → Nat} (h : Mk f W m cl) : W ≤ 40 := h.2.1
theorem Mk.hm {f : mm_F} {W m : Nat} {cl : Nat → Nat} (h : Mk f W m cl) : f 136 1 = nI m := h.2.2.1
theorem Mk.hm2 {f : mm_F} {W m : Nat} {cl : Nat → Nat} (h : Mk f W m cl) : m ≤ 4 := h.2.2.2.1
theorem Mk.hcl {f : mm_F} {W m : Nat} {cl : Nat → Nat} (h : Mk f W m cl) : ∀ t, t < m → f 137 t = nI (cl t) ∧ cl t ≤ 4 := h.2.2.2.2
/-- nothing but the fault and the width has changed -/
def rfi (f g : mm_F) : Prop := ∀ a j, ¬ (a = 136 ∧ (j = 11 ∨ j = 15)) → g a j = f a j
/-- nothing but what reading a plan writes has changed -/
def rfr (f g : mm_F) : Prop := ∀ a j, ¬ (a = 136 ∧ (j = 10 ∨ j = 11 ∨ j = 15)) → ¬ a = 143 → ¬ a = 144 → ¬ a = 145 → g a j = f a j
theorem rfi.rf (f : mm_F) : rfi f f := fun _ _ _ => rfl
theorem rfi.tr {f g h : mm_F} (h1 : rfi f g) (h2 : rfi g h) : rfi f h := fun a j q => (h2 a j q).trans (h1 a j q)
theorem rfi.up {f : mm_F} {j : Nat} {x : Int32} (hj : j = 11 ∨ j = 15) : rfi f (mm_up f 136 j x) := fun a k q => mm_up_ne _ _ (fun z => q ⟨z.1, by rw [z.2]; exact hj⟩)
theorem rfr.rf (f : mm_F) : rfr f f := fun _ _ _ _ _ _ => rfl
theorem rfr.tr {f g h : mm_F} (h1 : rfr f g) (h2 : rfr g h) : rfr f h := fun a j q q1 q2 q3 => (h2 a j q q1 q2 q3).trans (h1 a j q q1 q2 q3)
theorem rfr.up {f : mm_F} {a j : Nat} {x : Int32} (hj : (a = 136 ∧ (j = 10 ∨ j = 11 ∨ j = 15)) ∨ a = 143 ∨ a = 144 ∨ a = 145) : rfr f (mm_up f a j x) := fun b k q q1 q2 q3 => mm_up_ne _ _ (by omega)
theorem rfi.fr {f g : mm_F} (h : rfi f g) : rfr f g := fun a j q _ _ _ => h a j (by omega)
theorem Mk.of {f g : mm_F} {W m : Nat} {cl : Nat → Nat} (h : Mk f W m cl) (q : rfr f g) : Mk g W m cl :=
  ⟨(q 136 8 (by omega) (by omega) (by omega) (by omega)).trans h.hW, h.hW2, (q 136 1 (by omega) (by omega) (by omega) (by omega)).trans h.hm, h.hm2, fun t ht => ⟨(q 137 t (by omega) (by omega) (by omega) (by omega)).trans (h.hcl t ht).1, (h.hcl t ht).2⟩⟩
theorem Mk.ofi {f g : mm_F} {W m : Nat} {cl : Nat → Nat} (h : Mk f W m cl) (q : rfi f g) : Mk g W m cl := h.of q.fr
theorem wd_fr {f g : mm_F} {W p : Nat} (q : rfr f g) : wd g W p = wd f W p := by
  unfold wd
  rw [q 142 p (by omega) (by omega) (by omega) (by omega)]
theorem wd_fri {f g : mm_F} {W p : Nat} (q : rfi f g) : wd g W p = wd f W p := wd_fr q.fr
theorem dm_fr (f : mm_F) (W p : Nat) (b : Bool) : rfi f (dm f W p b) := by
  unfold dm
  split
  · exact rfi.rf f
  · split
    · exact rfi.up (Or.inl rfl)
    · split
      · exact rfi.rf f
      · exact rfi.up (Or.inl rfl)
theorem dm_ok {f : mm_F} {W p : Nat} {b : Bool} (hp : p ≤ 100) (hW : W ≤ 40) (h : (dm f W p b) 136 11 < 0) : f 136 11 < 0 ∧ p < W ∧ b = true ∧ dm f W p b = f := by
  unfold dm at h ⊢
  by_cases c1 : 0 ≤ f 136 11
  · rw [if_pos c1] at h; exact absurd h (Int32.not_lt.mpr c1)
  · rw [if_neg c1] at h ⊢
    by_cases c2 : W ≤ p
    · rw [if_pos c2, mm_up_eq] at h; exact absurd h (nI_lt0 W (by omega))
    · rw [if_neg c2] at h ⊢
      by_cases c3 : b = true
      · rw [if_pos c3]; exact ⟨Int32.not_le.mp c1, by omega, c3, rfl⟩
      · rw [if_neg c3, mm_up_eq] at h; exact absurd h (nI_lt0 p (by omega))
theorem rcl_fr (f : mm_F) (W p : Nat) : rfi f (rcl f W p) := dm_fr _ _ _ _
theorem rcL_fr (W p : Nat) : ∀ (k : Nat) (f : mm_F), rfi f (rcL W p k f)
  | 0, f => rfi.rf f
  | k + 1, f => (rcL_fr W p k f).tr (rcl_fr _ _ _)
theorem rcF_fr (f : mm_F) (W p : Nat) : rfi f (rcF f W p).1 := by
  unfold rcF
  split
  · exact ((dm_fr _ _ _ _).tr (rcL_fr _ _ _ _)).tr (rfi.up (Or.inr rfl))
  · exact dm_fr _ _ _ _
theorem rj1_fr (f : mm_F) (W p : Nat) (cl : Nat → Nat) (t : Int32) : rfi f (rj1 f W p cl t) := (dm_fr _ _ _ _).tr (rcl_fr _ _ _)
theorem rjF_fr (f : mm_F) (W m : Nat) (cl : Nat → Nat) (p : Nat) : rfi f (rjF f W m cl p).1 := by
  unfold rjF
  split
  · exact ((dm_fr _ _ _ _).tr (rj1_fr _ _ _ _ _)).tr (rfi.up (Or.inr rfl))
  · exact dm_fr _ _ _ _
theorem rsF_fr (f : mm_F) (W m : Nat) (cl : Nat → Nat) (op : Int32) (p : Nat) : rfi f (rsF f W m cl op p).1 := by
  unfold rsF
  split
  · exact ((rcl_fr _ _ _).tr (dm_fr _ _ _ _)).tr (dm_fr _ _ _ _)
  split
  · exact rcF_fr _ _ _
  split
  · exact rjF_fr _ _ _ _ _
  split
  · exact dm_fr _ _ _ _
  split
  · exact rfi.up (Or.inr rfl)
  split
  · exact (rcl_fr _ _ _).tr (rfi.up (Or.inr rfl))
  · exact (rcl_fr _ _ _).tr (rfi.up (Or.inr rfl))
theorem wd_le {f : mm_F} {W p : Nat} (hp : p ≤ 100) (hW : W ≤ 40) (h : (dm f W p (btw 1 8 (wd f W p))) 136 11 < 0) : ∃ n : Nat, 1 ≤ n ∧ n ≤ 8 ∧ wd f W p = nI n := by
  obtain ⟨_, _, h3, _⟩ := dm_ok hp hW h
  have h4 : ¬ wd f W p < 1 ∧ ¬ 8 < wd f W p := of_decide_eq_true h3
  have h5 : vp_in (wd f W p) 9 := by
    rw [vp_in_iff]
    have a1 := h4.1
    have a2 := h4.2
    rw [Int32.lt_iff_toInt_lt] at a1 a2
    have b1 : (1 : Int32).toInt = 1 := by decide
    have b2 : (8 : Int32).toInt = 8 := by decide
    omega
  obtain ⟨n, hn, e⟩ := vp_in_of h5 (by omega)
  refine ⟨n, ?_, by omega, e⟩
  rcases Nat.eq_zero_or_pos n with h0 | h0
  · rw [e, h0] at h4
    exact absurd (by decide) h4.1
  · exact h0
theorem rcF_p (f : mm_F) {W p : Nat} (hp : p ≤ 100) (hW : W ≤ 40) : p ≤ (rcF f W p).2 ∧ (rcF f W p).2 ≤ p + 9 := by
  unfold rcF
  split
  · rename_i h
    obtain ⟨n, h1, h2, h3⟩ := wd_le hp hW h
    rw [h3, nI_clamp (by omega)]
    exact ⟨by show p ≤ p + n + 1; omega, by show p + n + 1 ≤ p + 9; omega⟩
  · exact ⟨Nat.le_refl _, by show p ≤ p + 9; omega⟩
theorem rjF_p (f : mm_F) {W m p : Nat} {cl : Nat → Nat} : p ≤ (rjF f W m cl p).2 ∧ (rjF f W m cl p).2 ≤ p + 9 := by
  unfold rjF
  split
  · exact ⟨by show p ≤ p + 3; omega, by show p + 3 ≤ p + 9; omega⟩
  · exact ⟨Nat.le_refl _, by show p ≤ p + 9; omega⟩
theorem rsF_p (f : mm_F) {W m p : Nat} {cl : Nat → Nat} {op : Int32} (hp : p ≤ 100) (hW : W ≤ 40) : p ≤ (rsF f W m cl op p).2 ∧ (rsF f W m cl op p).2 ≤ p + 9 := by
  unfold rsF
  split
  · exact ⟨by show p ≤ p + 3; omega, by show p + 3 ≤ p + 9; omega⟩
  split
  · exact rcF_p _ hp hW
  split
  · exact rjF_p _
  split
  · exact ⟨by show p ≤ p + 1; omega, by show p + 1 ≤ p + 9; omega⟩
  split
  · exact ⟨Nat.le_refl _, by show p ≤ p + 9; omega⟩
  split
  · exact ⟨by show p ≤ p + 1; omega, by show p + 1 ≤ p + 9; omega⟩
  · exact ⟨by show p ≤ p + 1; omega, by show p + 1 ≤ p + 9; omega⟩
section CMD3
variable {E : mm_E} {w : mm_W} {f : mm_F} {W m p : Nat} {cl : Nat → Nat}
theorem nI_and3 : ∀ c, c < 4 → nI c &&& 3 = nI c := by decide +kernel
theorem bI_ne0 {b : Bool} (h : ¬ bI b = 0) : b = true := by
  cases b
  · exact absurd rfl h
  · rfl
theorem bI_eq0 {b : Bool} (h : bI b = 0) : b = false := by
  cases b
  · rfl
  · exact absurd h (by decide)
theorem c_MD_demand {b : Bool} (hw : mm_sh w) (hf : Mk f W m cl) (hp : p ≤ 100) : mm_C E y_MD_demand b_MD_demand 3 none 0 0 0 [mm_rf E 136, .int (nI p), .int (bI b)] w f (mm_P none w (dm f W p b)) := by
  refine mm_start (by decide) rfl (Nat.le_of_ble_eq_true rfl) fun Γ h he => ?_
  have hW := hf.hW
  have hW2 := hf.hW2
  have hx : dm f W p b = if 0 ≤ f 136 11 then f else if W ≤ p then mm_up f 136 11 (nI W) else if b = true then f else mm_up f 136 11 (nI p) := rfl
  refine s_MD_demand_0 h hw (fun c1 => ?_) (fun c1 c2 => ?_) (fun c1 c2 c3 => ?_) (fun c1 c2 c3 => ?_)
  · exact s_MD_demand_39 h he (Nat.le_refl _) (Nat.le_refl _) hw (by rw [hx, if_pos c1]; exact mm_Pr)
  · rw [hW, nI_leI (by omega) (by omega)] at c2
    refine s_MD_demand_19 h hw (fun c3 => ?_) (fun c3 => ?_)
    · rw [hW] at c3
      exact absurd ((nI_leI (by omega) (by omega)).mpr c2) (Int32.not_le.mpr c3)
    · refine s_MD_demand_36 h hw (s_MD_demand_39 h he (Nat.le_refl _) (Nat.le_refl _) hw ?_)
      rw [hx, if_neg c1, if_pos c2, hW]; exact mm_Pr
  · rw [hW, nI_leI (by omega) (by omega)] at c2
    exact s_MD_demand_39 h he (Nat.le_refl _) (Nat.le_refl _) hw (by rw [hx, if_neg c1, if_neg c2, if_pos (bI_ne0 c3)]; exact mm_Pr)
  · have c2' := c2
    rw [hW, nI_leI (by omega) (by omega)] at c2'
    refine s_MD_demand_19 h hw (fun c4 => ?_) (fun c4 => absurd (Int32.not_le.mp c2) c4)
    refine s_MD_demand_36 h hw (s_MD_demand_39 h he (Nat.le_refl _) (Nat.le_refl _) hw ?_)
    rw [hx, if_neg c1, if_neg c2', if_neg (by rw [bI_eq0 c3]; decide)]; exact mm_Pr
theorem c_MD_demand1 (hw : mm_sh w) (hf : Mk f W m cl) (hp : p ≤ 100) : mm_C E y_MD_demand b_MD_demand 3 none 0 0 0 [mm_rf E 136, .int (nI p), .int 1] w f (mm_P none w (dm f W p true)) := c_MD_demand (b := true) hw hf hp
theorem c_MD_wordAt (hw : mm_sh w) (hf : Mk f W m cl) (hp : p ≤ 100) : mm_C E y_MD_wordAt b_MD_wordAt 2 (some .int) 0 0 0 [mm_rf E 136, .int (nI p)] w f (mm_P (some (.int (wd f W p))) w f) := by
  refine mm_start (by decide) rfl (Nat.le_of_ble_eq_true rfl) fun Γ h he => ?_
  have hW := hf.hW
  have hW2 := hf.hW2
  have hx : wd f W p = if W ≤ p then 0 else f 142 p := rfl
  refine s_MD_wordAt_0 h hw (fun c1 => ?_) (fun c1 => ?_) (fun c1 => ?_)
  all_goals rw [hW, nI_leI (by omega) (by omega)] at c1
  · rw [if_pos c1] at hx
    exact s_MD_wordAt_18 h he (Nat.le_refl _) (Nat.le_refl _) hw (by rw [hx]; exact mm_Pr)
  · exact mm_inI (by omega) (by omega)
  · rw [if_neg c1] at hx
    rw [nI_clamp (by omega)]
    exact s_MD_wordAt_18 h he (Nat.le_refl _) (Nat.le_refl _) hw (by rw [hx]; exact mm_Pr)
theorem c_MD_isCell {x : Int32} (hw : mm_sh w) : mm_C E y_MD_isCell b_MD_isCell 2 (some .boolean) 0 0 0 [mm_rf E 136, .int x] w f (mm_P (some (.int (bI (iC f x)))) w f) := by
  refine mm_start (by decide) rfl (Nat.le_of_ble_eq_true rfl) fun Γ h he => ?_
  have no : ¬ (¬ x < 0 ∧ ¬ f 136 15 ≤ x) → mm_go E Γ 2 16 [(0, mm_rf E 136), (1, .int x)] [] w f 0 0 := fun c => by
    have e : iC f x = false := decide_eq_false c
    refine s_MD_isCell_16 h hw (s_MD_isCell_17 h he (Nat.le_refl _) (Nat.le_refl _) hw ?_ rfl)
    rw [e]; exact mm_Pr
  refine s_MD_isCell_0 h hw (fun c1 => no fun z => z.1 c1) (fun c1 c2 => no fun z => z.2 c2) (fun c1 c2 => ?_)
  have e : iC f x = true := decide_eq_true ⟨c1, c2⟩
  exact s_MD_isCell_17 h he (Nat.le_refl _) (Nat.le_refl _) hw (by rw [e]; exact mm_Pr) rfl
theorem c_MD_readSource (hw : mm_sh w) (hf : Mk f W m cl) : mm_C E y_MD_readSource b_MD_readSource 3 none 1 0 0 [mm_rf E 136] w f (mm_P none w (rso f W m cl)) := by
  refine mm_start (by decide) rfl (Nat.le_of_ble_eq_true rfl) fun Γ h he => ?_
  have hW2 := hf.hW2
  refine s_MD_readSource_0 (vl0 := 0) (vc0 := 0) (vs0 := 0) h hw (by omega) (by omega) (by omega) (c_MD_wordAt (p := 0) hw hf (by omega)) ?_
  rintro _ _ _ ⟨rfl, rfl, rfl⟩
  have e0 : (mm_up (mm_up f 143 0 (wd f W 0)) 144 0 1) 143 0 = wd f W 0 := by rw [mm_up_ne _ _ (by omega), mm_up_eq]
  have fr0 : rfr f (mm_up (mm_up f 143 0 (wd f W 0)) 144 0 1) := (rfr.up (by omega)).tr (rfr.up (by omega))
  have go45 : ∀ (b : Bool), b = decide (wd f W 0 = 1 ∨ wd f W 0 = 2) → mm_go E Γ 3 45 [(0, mm_rf E 136)] [.int (bI b), .int 0, mm_rf E 136] w (mm_up (mm_up f 143 0 (wd f W 0)) 144 0 1) 0 0 := by
    intro b hb
    refine s_MD_readSource_45 (vl0 := 0) (vc0 := 0) (vs0 := 0) h hw (by omega) (by omega) (by omega) (c_MD_demand (p := 0) hw (hf.of fr0) (by omega)) ?_
    rw [hb]
    show ∀ r w1 f1, mm_P none w (rso1 f W) r w1 f1 → _
    rintro _ _ _ ⟨rfl, rfl, rfl⟩
    have fr1 : rfr f (rso1 f W) := fr0.tr (dm_fr _ _ _ _).fr
    have f1 := hf.of fr1
    refine s_MD_readSource_48 (vl0 := 0) (vc0 := 0) (vs0 := 0) h hw (by omega) (by omega) (by omega) (c_MD_wordAt (p := 1) hw f1 (by omega)) ?_
    rw [wd_fr fr1]
    rintro _ _ _ ⟨rfl, rfl, rfl⟩
    refine s_MD_readSource_53 (vl0 := 0) (vc0 := 0) (vs0 := 0) h hw (by omega) (by omega) (by omega) (c_MD_isTable hw f1.hm f1.hm2) ?_
    rintro _ _ _ ⟨rfl, rfl, rfl⟩
    refine s_MD_readSource_61 (vl0 := 0) (vc0 := 0) (vs0 := 0) h hw (by omega) (by omega) (by omega) (c_MD_demand (p := 1) hw f1 (by omega)) ?_
    show ∀ r w1 f1, mm_P none w (rso2 f W m) r w1 f1 → _
    rintro _ _ _ ⟨rfl, rfl, rfl⟩
    have fr2 : rfr f (rso2 f W m) := fr1.tr (dm_fr _ _ _ _).fr
    have hx : rso f W m cl = if (rso2 f W m) 136 11 < 0 then rso4 (mm_up (rso2 f W m) 136 15 ((rso2 f W m) 137 (wd f W 1).toNatClampNeg)) W cl (wd f W 1) else rso2 f W m := rfl
    have hin : (rso2 f W m) 136 11 < 0 → inb (wd f W 1) m = true := fun q => (dm_ok (by omega) hW2 q).2.2.1
    have fr3 : rfr f (mm_up (rso2 f W m) 136 15 ((rso2 f W m) 137 (wd f W 1).toNatClampNeg)) := fr2.tr (rfr.up (by omega))
    have f3 := hf.of fr3
    have hm2 := hf.hm2
    generalize hg : mm_up (rso2 f W m) 136 15 ((rso2 f W m) 137 (wd f W 1).toNatClampNeg) = g at hx fr3 f3
    refine s_MD_readSource_64 (vl0 := 0) (vc0 := 0) (vs0 := 0) h he (Nat.le_refl _) (Nat.le_refl _) hw (fun c1 => ?_) (fun c1 c2 => ?_) (by omega) (by omega) (by omega) (fun c1 c2 => by rw [hg]; exact c_MD_wordAt (p := 2) hw f3 (by omega)) (fun c1 c2 => ?_) (fun c1 => ?_)
    · obtain ⟨ex, hxl⟩ := inb_nI (hin c1) (by omega)
      rw [ex]; exact mm_inI (by omega) (by omega)
    · rw [hg] at c2 ⊢
      rw [if_pos c1] at hx
      unfold rso4 at hx
      rw [if_neg c2] at hx
      exact s_MD_readSource_144 h he (Nat.le_refl _) (Nat.le_refl _) hw (by rw [hx]; exact mm_Pr)
    · rw [hg] at c2
      rw [if_pos c1] at hx
      unfold rso4 at hx
      rw [if_pos c2] at hx
      rintro _ _ _ ⟨rfl, rfl, rfl⟩
      obtain ⟨ex, hxl⟩ := inb_nI (hin c1) (by omega)
      obtain ⟨hc1, hc2⟩ := f3.hcl _ hxl
      have bx : ixC g (wd f W 1) (wd g W 2) (cl (wd f W 1).toNatClampNeg) = (inb (wd g W 2) (cl (wd f W 1).toNatClampNeg) && decide (¬ g 138 (4 * (wd f W 1).toNatClampNeg + (wd g W 2).toNatClampNeg) = 0)) := rfl
      refine s_MD_readSource_97 (vl0 := 0) (vc0 := 0) (vs0 := 0) h hw (by omega) (by omega) (by omega) (by rw [ex]; exact c_MD_isColumn hw (by omega) hc1 hc2) ?_
      rintro _ _ _ ⟨rfl, rfl, rfl⟩
      have fin : ∀ b : Bool, b = ixC g (wd f W 1) (wd g W 2) (cl (wd f W 1).toNatClampNeg) → mm_go E Γ 3 129 [(0, mm_rf E 136), (1, .int (wd f W 1)), (2, .int (wd g W 2))] [.int (bI b), .int 2, mm_rf E 136] w g 0 0 := by
        intro b hb
        refine s_MD_readSource_129 (vl0 := 0) (vc0 := 0) (vs0 := 0) h hw (by omega) (by omega) (by omega) (c_MD_demand (p := 2) hw f3 (by omega)) ?_
        rw [hb]
        rintro _ _ _ ⟨rfl, rfl, rfl⟩
        refine s_MD_readSource_132 (vl0 := 0) (vc0 := 0) (vs0 := 0) h hw (by omega) (by omega) (by omega) (c_MD_demand1 (p := 3) hw (f3.ofi (dm_fr _ _ _ _)) (by omega)) ?_
        rintro _ _ _ ⟨rfl, rfl, rfl⟩
        refine s_MD_readSource_138 (vl0 := 0) (vc0 := 0) (vs0 := 0) h hw (by omega) (by omega) (by omega) (c_MD_demand1 (p := 4) hw (f3.ofi ((dm_fr _ _ _ _).tr (dm_fr _ _ _ _))) (by omega)) ?_
        rintro _ _ _ ⟨rfl, rfl, rfl⟩
        exact s_MD_readSource_144 h he (Nat.le_refl _) (Nat.le_refl _) hw (by rw [hx]; exact mm_Pr)
      have ei : ∀ q : inb (wd g W 2) (cl (wd f W 1).toNatClampNeg) = true, 4 * (wd f W 1) + (wd g W 2 &&& 3) = nI (4 * (wd f W 1).toNatClampNeg + (wd g W 2).toNatClampNeg) ∧ (wd g W 2).toNatClampNeg < 4 := fun q => by
        obtain ⟨ey, hyl⟩ := inb_nI q (by omega)
        refine ⟨?_, by omega⟩
        rw [← nI_add, ← nI_4, ← ex, ← nI_and3 _ (show (wd g W 2).toNatClampNeg < 4 by omega), ← ey]
      refine s_MD_readSource_106 h hw (fun c3 => ?_) (fun c3 => ?_) (fun c3 c4 => ?_) (fun c3 c4 => ?_)
      · refine s_MD_readSource_128 h hw (fin false ?_)
        rw [bx, bI_eq0 c3]; rfl
      · obtain ⟨e1, e2⟩ := ei (bI_ne0 c3)
        rw [e1]; exact mm_inI (by omega) (by omega)
      · obtain ⟨e1, e2⟩ := ei (bI_ne0 c3)
        rw [e1, nI_clamp (by omega)] at c4
        refine s_MD_readSource_128 h hw (fin false ?_)
        rw [bx, c4, decide_eq_false (by exact fun z => z rfl), Bool.and_false]
      · obtain ⟨e1, e2⟩ := ei (bI_ne0 c3)
        rw [e1, nI_clamp (by omega)] at c4
        refine fin true ?_
        rw [bx, bI_ne0 c3, decide_eq_true c4]; rfl
    · rw [if_neg c1] at hx
      rw [hx]; exact mm_Pr
  refine s_MD_readSource_10 h hw (mm_inI (k := 0) (by omega) (by omega)) (fun c1 => ?_) (fun c1 c2 => ?_) (fun c1 c2 => ?_)
  · have c1' : wd f W 0 = 1 := e0.symm.trans c1
    exact s_MD_readSource_40 h hw (go45 true (by rw [decide_eq_true (Or.inl c1')]))
  · have c1' : ¬ wd f W 0 = 1 := fun z => c1 (e0.trans z)
    have c2' : ¬ wd f W 0 = 2 := fun z => c2 (e0.trans z)
    exact go45 false (by rw [decide_eq_false]; rintro (z | z); exact c1' z; exact c2' z)
  · have c2' : wd f W 0 = 2 := e0.symm.trans c2
    exact s_MD_readSource_40 h hw (go45 true (by rw [decide_eq_true (Or.inr c2')]))
end CMD3
