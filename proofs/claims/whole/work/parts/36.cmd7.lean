/-! Contracts of the reference's run: what a step does, pushing a row on. -/
def goF (f : mm_F) (s : Nat) : mm_F × Int32 :=
  if f 143 s = 3 then (f, bI (psF (pw f s 1) (f 146 (pw f s 0).toNatClampNeg) (pw f s 2))) else if f 143 s = 4 then (chF f s, 1) else if f 143 s = 5 then (hoF f s (f 145 s).toNatClampNeg, 0)
  else if f 143 s = 6 then (if pw f s 0 ≤ f 147 s then (mm_up f 147 s (f 147 s), 1) else (mm_up f 147 s (f 147 s + 1), 0)) else if f 143 s = 7 then (mm_up f 147 s (f 147 s + 1), 1)
  else if f 143 s = 8 then (mm_up f 147 s (f 147 s + 1), 0) else if f 143 s = 9 then (mm_up f 147 s (f 147 s + f 146 (pw f s 0).toNatClampNeg), 0) else rnF f s
/-- what a step of the reference leans on -/
def qOK (f : mm_F) (m : Nat) (cl : Nat → Nat) (s : Nat) : Prop := ∃ a v : Nat, f 144 s = nI a ∧ a ≤ 40 ∧ f 145 s = nI v ∧ v ≤ 8 ∧
  (f 143 s = 3 → a + 2 < 40 ∧ ∃ c, c < 8 ∧ f 142 a = nI c) ∧
  (f 143 s = 4 → ∃ k, k ≤ 8 ∧ a + k < 40 ∧ f 142 a = nI k ∧ ∀ i, i < k → ∃ c, c < 8 ∧ f 142 (a + 1 + i) = nI c) ∧
  (f 143 s = 5 → a + 2 < 40 ∧ ∃ t d c, t < m ∧ d < 4 ∧ c < 8 ∧ f 142 a = nI t ∧ f 142 (a + 1) = nI d ∧ f 142 (a + 2) = nI c ∧ v + cl t ≤ 8) ∧
  (f 143 s = 6 ∨ f 143 s = 7 → a < 40) ∧
  (f 143 s = 9 ∨ f 143 s = 10 → a < 40 ∧ ∃ c, c < 8 ∧ f 142 a = nI c) ∧
  (f 143 s = 3 ∨ f 143 s = 4 ∨ f 143 s = 5 ∨ f 143 s = 6 ∨ f 143 s = 7 ∨ f 143 s = 8 ∨ f 143 s = 9 ∨ f 143 s = 10)
def RS (f : mm_F) (n m R : Nat) (cl : Nat → Nat) : Prop := f 136 10 = nI n ∧ 1 ≤ n ∧ n ≤ 39 ∧ f 136 5 = nI R ∧ R ≤ 48 ∧ m ≤ 4 ∧ (∀ t, t < m → f 137 t = nI (cl t) ∧ cl t ≤ 4) ∧ (∃ t, t < m ∧ f 142 1 = nI t) ∧ (f 143 0 = 2 → ∃ c, c < 4 ∧ f 142 2 = nI c) ∧ ∀ s, 1 ≤ s → s < n → qOK f m cl s
def RD (f : mm_F) : Prop := (∃ c, c ≤ 8 ∧ f 136 20 = nI c) ∧ ∃ z, z ≤ 64 ∧ f 136 30 = nI z
/-- nothing but what a run writes has changed -/
def dfr (f g : mm_F) : Prop := ∀ a j, ¬ (a = 136 ∧ (j = 16 ∨ j = 17 ∨ j = 18 ∨ j = 19 ∨ j = 20 ∨ j = 26 ∨ j = 27 ∨ j = 28 ∨ j = 30)) → ¬ (146 ≤ a ∧ a ≤ 151) → g a j = f a j
theorem dfr.rf (f : mm_F) : dfr f f := fun _ _ _ _ => rfl
theorem dfr.tr {f g h : mm_F} (h1 : dfr f g) (h2 : dfr g h) : dfr f h := fun a j q q2 => (h2 a j q q2).trans (h1 a j q q2)
theorem dfr.up {f : mm_F} {a j : Nat} {x : Int32} (hj : (a = 136 ∧ (j = 16 ∨ j = 17 ∨ j = 18 ∨ j = 19 ∨ j = 20 ∨ j = 26 ∨ j = 27 ∨ j = 28 ∨ j = 30)) ∨ (146 ≤ a ∧ a ≤ 151)) : dfr f (mm_up f a j x) := fun b k q q2 => mm_up_ne _ _ (by omega)
theorem dfr.row {f g : mm_F} (h : dfr f g) {a : Nat} (ha : ¬ a = 136) (h2 : ¬ (146 ≤ a ∧ a ≤ 151)) : g a = f a := funext fun j => h a j (fun z => ha z.1) h2
theorem qOK.of {f g : mm_F} {m : Nat} {cl : Nat → Nat} {s : Nat} (h : qOK f m cl s) (q : dfr f g) : qOK g m cl s := by
  have e1 := q.row (a := 142) (by omega) (by omega)
  have e2 := q.row (a := 143) (by omega) (by omega)
  have e3 := q.row (a := 144) (by omega) (by omega)
  have e4 := q.row (a := 145) (by omega) (by omega)
  unfold qOK at h ⊢
  rw [e1, e2, e3, e4]
  exact h
theorem RS.of {f g : mm_F} {n m R : Nat} {cl : Nat → Nat} (h : RS f n m R cl) (q : dfr f g) : RS g n m R cl := by
  obtain ⟨a1, a2, a3, a4, a5, a6, a7, a8, a9, a10⟩ := h
  have e1 := q.row (a := 142) (by omega) (by omega)
  have e2 := q.row (a := 143) (by omega) (by omega)
  have e3 := q.row (a := 137) (by omega) (by omega)
  refine ⟨?_, a2, a3, ?_, a5, a6, ?_, ?_, ?_, fun s h1 h2 => (a10 s h1 h2).of q⟩
  · rw [q 136 10 (by omega) (by omega)]; exact a1
  · rw [q 136 5 (by omega) (by omega)]; exact a4
  · rw [e3]; exact a7
  · rw [e1]; exact a8
  · rw [e1, e2]; exact a9
theorem chL_fr (f : mm_F) (s k : Nat) : dfr f (chL f s k) := fun a j _ q => by
  unfold chL
  rw [if_neg (by omega)]
theorem chR_fr (f : mm_F) (s k : Nat) : dfr f (chR f s k) := fun a j _ q => by
  unfold chR
  rw [if_neg (by omega)]
theorem loL_fr (f : mm_F) (r fr k : Nat) : dfr f (loL f r fr k) := fun a j _ q => by
  unfold loL
  rw [if_neg (by omega)]
theorem rnF_fr (f : mm_F) (s : Nat) : dfr f (rnF f s).1 := by
  unfold rnF
  split
  · exact (((((dfr.up (by omega)).tr (dfr.up (by omega))).tr (dfr.up (by omega))).tr (dfr.up (by omega))).tr (dfr.up (by omega))).tr (dfr.up (by omega))
  · exact ((dfr.up (by omega)).tr (dfr.up (by omega))).tr (dfr.up (by omega))
theorem goF_fr (f : mm_F) (s : Nat) : dfr f (goF f s).1 := by
  unfold goF
  split
  · exact dfr.rf f
  split
  · exact ((chL_fr _ _ _).tr (chR_fr _ _ _)).tr (dfr.up (by omega))
  split
  · exact ((chL_fr _ _ _).tr (dfr.up (by omega))).tr (dfr.up (by omega))
  split
  · split
    · exact dfr.up (by omega)
    · exact dfr.up (by omega)
  split
  · exact dfr.up (by omega)
  split
  · exact dfr.up (by omega)
  split
  · exact dfr.up (by omega)
  · exact rnF_fr f s
theorem RD.of {f g : mm_F} (h : RD f) (h1 : g 136 20 = f 136 20) (h2 : g 136 30 = f 136 30) : RD g := by
  unfold RD at h ⊢
  rw [h1, h2]; exact h
theorem RD.car {f : mm_F} {c : Nat} (h : RD f) (hc : c ≤ 8) : RD (mm_up f 136 20 (nI c)) := ⟨⟨c, hc, mm_up_eq _ _ _ _⟩, by obtain ⟨z, z1, z2⟩ := h.2; exact ⟨z, z1, by rw [mm_up_ne _ _ (by omega)]; exact z2⟩⟩
theorem RD.up {f : mm_F} {a j : Nat} {x : Int32} (h : RD f) (ha : ¬ (a = 136 ∧ (j = 20 ∨ j = 30))) : RD (mm_up f a j x) := h.of (mm_up_ne _ _ (by omega)) (mm_up_ne _ _ (by omega))
theorem rnF_RD {f : mm_F} (s : Nat) (h : RD f) : RD (rnF f s).1 := by
  unfold rnF
  split
  · refine RD.up (RD.up (RD.up ?_ (by omega)) (by omega)) (by omega)
    exact RD.car (c := 2) ((h.up (by omega)).up (by omega)) (by omega)
  · exact ((h.up (by omega)).up (by omega)).up (by omega)
theorem goF_RD {f : mm_F} {m : Nat} {cl : Nat → Nat} {s : Nat} (hq : qOK f m cl s) (h : RD f) : RD (goF f s).1 := by
  unfold goF
  split
  · exact h
  split
  · rename_i h4
    obtain ⟨a, v, q1, q2, q3, q4, _, q6, _⟩ := hq
    obtain ⟨k, k1, k2, k3, _⟩ := q6 h4
    have e : pw f s 0 = nI k := by unfold pw pA; rw [q1, nI_clamp (by omega)]; exact k3
    unfold chF
    rw [e]
    exact RD.car (RD.of h (by rw [chR_off _ (by omega), chL_off _ (by omega)]) (by rw [chR_off _ (by omega), chL_off _ (by omega)])) k1
  split
  · unfold hoF
    exact ((RD.of h (by rw [chL_off _ (by omega)]) (by rw [chL_off _ (by omega)])).up (by omega)).up (by omega)
  split
  · split
    · exact h.up (by omega)
    · exact h.up (by omega)
  split
  · exact h.up (by omega)
  split
  · exact h.up (by omega)
  split
  · exact h.up (by omega)
  · exact rnF_RD s h
def ouL (f : mm_F) (z k : Nat) : mm_F := fun a j => if a = 151 ∧ z ≤ j ∧ j < z + k then f 146 (j - z) else f a j
def ouF (f : mm_F) : mm_F := if f 136 30 + f 136 20 ≤ 64 then mm_up (ouL (mm_up f 136 19 0) (f 136 30).toNatClampNeg (f 136 20).toNatClampNeg) 136 30 (f 136 30 + f 136 20) else mm_up (mm_up f 136 19 1) 136 30 (f 136 30)
theorem ouL_fr (f : mm_F) (z k : Nat) : dfr f (ouL f z k) := fun a j _ q => by
  unfold ouL
  rw [if_neg (by omega)]
theorem ouF_fr (f : mm_F) : dfr f (ouF f) := by
  unfold ouF
  split
  · exact ((dfr.up (by omega)).tr (ouL_fr _ _ _)).tr (dfr.up (by omega))
  · exact (dfr.up (by omega)).tr (dfr.up (by omega))
theorem ouL_off (f : mm_F) {z k a : Nat} (h : ¬ a = 151) : ouL f z k a = f a := by
  funext j
  unfold ouL
  rw [if_neg (fun z => h z.1)]
theorem ouL_0 (f : mm_F) (z : Nat) : ouL f z 0 = f := by
  funext a j
  unfold ouL
  rw [if_neg (by omega)]
theorem ouL_step (f : mm_F) (z k : Nat) : mm_up (ouL f z k) 151 (z + k) (f 146 k) = ouL f z (k + 1) := by
  funext a j
  unfold mm_up ouL
  by_cases h1 : a = 151 ∧ j = z + k
  · rw [if_pos h1, if_pos (by omega), show j - z = k by omega]
  · rw [if_neg h1]
    by_cases h2 : a = 151 ∧ z ≤ j ∧ j < z + k
    · rw [if_pos h2, if_pos (by omega)]
    · rw [if_neg h2, if_neg (by omega)]
theorem ouF_RD {f : mm_F} (h : RD f) : RD (ouF f) := by
  obtain ⟨⟨c, c1, c2⟩, z, z1, z2⟩ := h
  have i64 : (64 : Int32) = nI 64 := rfl
  unfold ouF
  split
  · rename_i q
    rw [c2, z2, nI_add, i64, nI_leI (by omega) (by omega)] at q
    refine ⟨⟨c, c1, ?_⟩, z + c, q, ?_⟩
    · rw [mm_up_ne _ _ (by omega), ouL_off _ (by omega), mm_up_ne _ _ (by omega)]; exact c2
    · rw [mm_up_eq, c2, z2, nI_add]
  · refine ⟨⟨c, c1, ?_⟩, z, z1, ?_⟩
    · rw [mm_up_ne _ _ (by omega), mm_up_ne _ _ (by omega)]; exact c2
    · rw [mm_up_eq]; exact z2
/-- a row goes on from step s; k steps are left -/
def puF : Nat → mm_F → Nat → mm_F
  | 0, f, _ => ouF f
  | k + 1, f, s => if (goF f s).2 = 0 then (goF f s).1 else puF k (goF f s).1 (s + 1)
theorem puF_fr : ∀ (k : Nat) (f : mm_F) (s : Nat), dfr f (puF k f s)
  | 0, f, _ => ouF_fr f
  | k + 1, f, s => by
    unfold puF
    split
    · exact goF_fr f s
    · exact (goF_fr f s).tr (puF_fr k _ _)
theorem puF_RD {n m R : Nat} {cl : Nat → Nat} : ∀ (k : Nat) {f : mm_F} {s : Nat}, RS f n m R cl → RD f → 1 ≤ s → s + k = n → RD (puF k f s)
  | 0, f, _, _, h, _, _ => ouF_RD h
  | k + 1, f, s, hr, h, h1, h2 => by
    have hq := hr.2.2.2.2.2.2.2.2.2 s h1 (by omega)
    unfold puF
    split
    · exact goF_RD hq h
    · exact puF_RD k (hr.of (goF_fr f s)) (goF_RD hq h) (by omega) (by omega)
section CMD7
variable {E : mm_E} {w : mm_W} {f : mm_F} {s n m R : Nat} {cl : Nat → Nat}
theorem c_MD_goesOn (hw : mm_sh w) (hs : s < 40) (hq : qOK f m cl s) : mm_C E y_MD_goesOn b_MD_goesOn 3 (some .boolean) 1 0 0 [mm_rf E 136, .int (nI s)] w f (mm_P (some (.int (goF f s).2)) w (goF f s).1) := by
  refine mm_start (by decide) rfl (Nat.le_of_ble_eq_true rfl) fun Γ h he => ?_
  obtain ⟨a, v, q1, q2, q3, q4, o3, o4, o5, o67, o910, oo⟩ := hq
  have i2 : (2 : Int32) = nI 2 := rfl
  have es : (nI s).toNatClampNeg = s := nI_clamp (by omega)
  have ea : (nI a).toNatClampNeg = a := nI_clamp (by omega)
  have pa : pA f s = a := by unfold pA; rw [q1, ea]
  have pk : ∀ k, pw f s k = f 142 (a + k) := fun k => by unfold pw; rw [pa]
  have hx : goF f s = (if f 143 s = 3 then (f, bI (psF (pw f s 1) (f 146 (pw f s 0).toNatClampNeg) (pw f s 2))) else if f 143 s = 4 then (chF f s, 1) else if f 143 s = 5 then (hoF f s (f 145 s).toNatClampNeg, 0)
    else if f 143 s = 6 then (if pw f s 0 ≤ f 147 s then (mm_up f 147 s (f 147 s), 1) else (mm_up f 147 s (f 147 s + 1), 0)) else if f 143 s = 7 then (mm_up f 147 s (f 147 s + 1), 1)
    else if f 143 s = 8 then (mm_up f 147 s (f 147 s + 1), 0) else if f 143 s = 9 then (mm_up f 147 s (f 147 s + f 146 (pw f s 0).toNatClampNeg), 0) else rnF f s) := rfl
  have is : ∀ N, 40 ≤ N → N ≤ 1000 → vp_in (nI s) N := fun N h1 h2 => mm_inI (by omega) (by omega)
  refine s_MD_goesOn_0 h hw (is 40 (by omega) (by omega)) (fun c1 => ?_) (fun c1 c2 => ?_) (fun c1 c2 c3 => ?_) (fun c1 c2 c3 c4 => ?_) (fun c1 c2 c3 c4 c5 => ?_) (fun c1 c2 c3 c4 c5 c6 => ?_) (fun c1 c2 c3 c4 c5 c6 c7 => ?_) (fun c1 c2 c3 c4 c5 c6 c7 => ?_)
  · rw [es] at c1
    rw [if_pos c1, pk, pk, pk] at hx
    obtain ⟨b1, c, cc1, cc2⟩ := o3 c1
    have ec : (nI c).toNatClampNeg = c := nI_clamp (by omega)
    refine s_MD_goesOn_48 (vl0 := 0) (vc0 := 0) (vs0 := 0) h hw (is 40 (by omega) (by omega)) (by rw [es, q1, nI_1]; exact mm_inI (by omega) (by omega)) (by rw [es, q1]; exact mm_inI (by omega) (by omega)) (by rw [es, q1, ea, cc2]; exact mm_inI (by omega) (by omega)) (by rw [es, q1, i2, nI_add]; exact mm_inI (by omega) (by omega)) (by omega) (by omega) (by omega) (c_MD_passes hw) ?_
    rw [es, q1, nI_1, i2, nI_add, ea, nI_clamp (n := a + 1) (by omega), nI_clamp (n := a + 2) (by omega)]
    rintro _ _ _ ⟨rfl, rfl, rfl⟩
    exact s_MD_goesOn_93 h he (Nat.le_refl _) (Nat.le_refl _) hw (by rw [hx]; exact mm_Pr) (mm_b2 (bI_01 _))
  · rw [es] at c1 c2
    rw [if_neg c1, if_pos c2] at hx
    obtain ⟨k, k1, k2, k3, k4⟩ := o4 c2
    refine s_MD_goesOn_94 (vl0 := 0) (vc0 := 0) (vs0 := 0) h hw (by omega) (by omega) (by omega) (c_MD_choose hw hs q1 k3 k1 k2 k4) ?_
    rintro _ _ _ ⟨rfl, rfl, rfl⟩
    exact s_MD_goesOn_99 h he (Nat.le_refl _) (Nat.le_refl _) hw (by rw [hx]; exact mm_Pr)
  · rw [es] at c1 c2 c3
    rw [if_neg c1, if_neg c2, if_pos c3, q3, nI_clamp (by omega)] at hx
    refine s_MD_goesOn_101 (vl0 := 0) (vc0 := 0) (vs0 := 0) h hw (is 40 (by omega) (by omega)) (by omega) (by omega) (by omega) (by rw [es, q3]; exact c_MD_hold hw hs q4) ?_
    rintro _ _ _ ⟨rfl, rfl, rfl⟩
    exact s_MD_goesOn_112 h he (Nat.le_refl _) (Nat.le_refl _) hw (by rw [hx]; exact mm_Pr)
  · rw [es] at c1 c2 c3 c4
    rw [if_neg c1, if_neg c2, if_neg c3, if_pos c4, pk, Nat.add_zero] at hx
    have a4 := o67 (Or.inl c4)
    refine s_MD_goesOn_114 h hw (is 40 (by omega) (by omega)) (by rw [es, q1]; exact mm_inI (by omega) (by omega)) (fun c => ?_) (fun c => ?_)
    · rw [es, q1, ea] at c
      rw [if_pos c] at hx
      refine s_MD_goesOn_139 h hw (fun _ => is 40 (by omega) (by omega)) (fun _ => ?_) (fun z => absurd rfl z) (fun z => absurd rfl z)
      rw [es]
      refine s_MD_goesOn_166 h hw (is 40 (by omega) (by omega)) (fun z => absurd rfl z) (fun _ => ?_)
      rw [es]
      exact s_MD_goesOn_176 h he (Nat.le_refl _) (Nat.le_refl _) hw (by rw [hx]; exact mm_Pr) rfl
    · rw [es, q1, ea] at c
      rw [if_neg c] at hx
      refine s_MD_goesOn_139 h hw (fun z => absurd z (by decide)) (fun z => absurd z (by decide)) (fun _ => is 40 (by omega) (by omega)) (fun _ => ?_)
      rw [es]
      refine s_MD_goesOn_166 h hw (is 40 (by omega) (by omega)) (fun _ => ?_) (fun z => absurd z (by decide))
      rw [es]
      exact s_MD_goesOn_176 h he (Nat.le_refl _) (Nat.le_refl _) hw (by rw [hx]; exact mm_Pr) rfl
  · rw [es] at c1 c2 c3 c4 c5
    rw [if_neg c1, if_neg c2, if_neg c3, if_neg c4, if_pos c5] at hx
    exact s_MD_goesOn_177 h he (Nat.le_refl _) (Nat.le_refl _) hw (is 40 (by omega) (by omega)) (by rw [es, hx]; exact mm_Pr)
  · rw [es] at c1 c2 c3 c4 c5 c6
    rw [if_neg c1, if_neg c2, if_neg c3, if_neg c4, if_neg c5, if_pos c6] at hx
    exact s_MD_goesOn_193 h he (Nat.le_refl _) (Nat.le_refl _) hw (is 40 (by omega) (by omega)) (by rw [es, hx]; exact mm_Pr)
  · rw [es] at c1 c2 c3 c4 c5 c6 c7
    rw [if_neg c1, if_neg c2, if_neg c3, if_neg c4, if_neg c5, if_neg c6, if_pos c7, pk] at hx
    obtain ⟨a1, c, cc1, cc2⟩ := o910 (Or.inl c7)
    exact s_MD_goesOn_209 h he (Nat.le_refl _) (Nat.le_refl _) hw (is 40 (by omega) (by omega)) (by rw [es, q1]; exact mm_inI (by omega) (by omega)) (by rw [es, q1, ea, cc2]; exact mm_inI (by omega) (by omega)) (by rw [es, q1, ea, hx]; exact mm_Pr)
  · rw [es] at c1 c2 c3 c4 c5 c6 c7
    rw [if_neg c1, if_neg c2, if_neg c3, if_neg c4, if_neg c5, if_neg c6, if_neg c7] at hx
    have c8 : f 143 s = 10 := by
      rcases oo with z | z | z | z | z | z | z | z
      · exact absurd z c1
      · exact absurd z c2
      · exact absurd z c3
      · exact absurd z c4
      · exact absurd z c5
      · exact absurd z c6
      · exact absurd z c7
      · exact z
    obtain ⟨a1, c, cc1, cc2⟩ := o910 (Or.inr c8)
    refine s_MD_goesOn_240 (vl0 := 0) (vc0 := 0) (vs0 := 0) h hw (by omega) (by omega) (by omega) (c_MD_runEnds hw hs q1 a1 cc2 cc1) ?_
    rintro _ _ _ ⟨rfl, rfl, rfl⟩
    refine s_MD_goesOn_245 h he (Nat.le_refl _) (Nat.le_refl _) hw (by rw [hx]; exact mm_Pr) (mm_b2 ?_)
    unfold rnF
    split
    · exact Or.inr rfl
    · exact Or.inl rfl
theorem c_MD_push (hw : mm_sh w) (hr : RS f n m R cl) (hd : RD f) (h1 : 1 ≤ s) (h2 : s ≤ n) : mm_C E y_MD_push b_MD_push 4 none 2 0 0 [mm_rf E 136, .int (nI s)] w f (mm_P none w (puF (n - s) f s)) := by
  refine mm_start (by decide) rfl (Nat.le_of_ble_eq_true rfl) fun Γ h he => ?_
  have n3 := hr.2.2.1
  have i64 : (64 : Int32) = nI 64 := rfl
  have outp : ∀ g : mm_F, RS g n m R cl → RD g → puF (n - s) f s = ouF g → mm_go E Γ 4 25 [(0, mm_rf E 136), (1, .int (nI s)), (2, .int (nI n))] [] w g 0 0 := by
    intro g hg hgd hx
    obtain ⟨⟨c, c1, c2⟩, z, z1, z2⟩ := hgd
    have hn := hg.1
    have e0 : ouF g = if g 136 30 + g 136 20 ≤ 64 then mm_up (ouL (mm_up g 136 19 0) (g 136 30).toNatClampNeg (g 136 20).toNatClampNeg) 136 30 (g 136 30 + g 136 20) else mm_up (mm_up g 136 19 1) 136 30 (g 136 30) := rfl
    rw [← hx] at e0
    refine s_MD_push_25 h he (Nat.le_refl _) (Nat.le_refl _) hw (fun _ q => ?_) (fun _ q => ?_) (fun q => ?_)
    · rw [if_pos q, c2, z2, nI_clamp (by omega), nI_clamp (by omega), nI_add] at e0
      rw [c2, z2, nI_add, i64, nI_leI (by omega) (by omega)] at q
      refine s_MD_push_54 h hw rfl rfl ?_
      have loop : ∀ d k, k + d = c → mm_go E Γ 4 59 [(0, mm_rf E 136), (1, .int (nI s)), (2, .int (nI n)), (3, .int (nI k))] [] w (ouL (mm_up g 136 19 0) z k) 0 0 := by
        intro d
        induction d with
        | zero =>
          intro k hk
          have : k = c := by omega
          subst this
          have g20 : (ouL (mm_up g 136 19 0) z k) 136 20 = nI k := by rw [ouL_off _ (by omega), mm_up_ne _ _ (by omega)]; exact c2
          have g30 : (ouL (mm_up g 136 19 0) z k) 136 30 = nI z := by rw [ouL_off _ (by omega), mm_up_ne _ _ (by omega)]; exact z2
          have g19 : (ouL (mm_up g 136 19 0) z k) 136 19 = 0 := by rw [ouL_off _ (by omega), mm_up_eq]
          refine s_MD_push_59 h hw (fun _ => ?_) (fun q => absurd (by rw [g20]; exact Int32.le_refl _) q) (fun q => absurd (by rw [g20]; exact Int32.le_refl _) q) (fun q => absurd (by rw [g20]; exact Int32.le_refl _) q) (fun q => absurd (by rw [g20]; exact Int32.le_refl _) q)
          refine s_MD_push_97 h hw (fun _ => ?_) (fun z => absurd g19 z)
          refine s_MD_push_121 h he (Nat.le_refl _) (Nat.le_refl _) hw ?_
          rw [g30, g20, nI_add, e0]; exact mm_Pr
        | succ d ih =>
          intro k hk
          have g20 : (ouL (mm_up g 136 19 0) z k) 136 20 = nI c := by rw [ouL_off _ (by omega), mm_up_ne _ _ (by omega)]; exact c2
          have g30 : (ouL (mm_up g 136 19 0) z k) 136 30 = nI z := by rw [ouL_off _ (by omega), mm_up_ne _ _ (by omega)]; exact z2
          have g19 : (ouL (mm_up g 136 19 0) z k) 136 19 = 0 := by rw [ouL_off _ (by omega), mm_up_eq]
          refine s_MD_push_59 h hw (fun q => ?_) (fun _ q => absurd g19 q) (fun _ _ => mm_inI (by omega) (by omega)) (fun _ _ => ?_) (fun _ _ => ?_)
          · rw [g20, nI_leI (by omega) (by omega)] at q; omega
          · rw [g30, nI_add]; exact mm_inI (by omega) (by omega)
          · rw [g30, nI_add, nI_1, nI_clamp (n := z + k) (by omega), nI_clamp (n := k) (by omega), ouL_off _ (show ¬ 146 = 151 by omega), ouL_step]
            exact ih (k + 1) (by omega)
      have := loop c 0 (by omega)
      rw [ouL_0] at this
      exact this
    · rw [if_neg q] at e0
      refine s_MD_push_54 h hw rfl rfl ?_
      have g19 : (mm_up g 136 19 1) 136 19 = 1 := mm_up_eq _ _ _ _
      have n0 : ¬ (mm_up g 136 19 1) 136 19 = 0 := by rw [g19]; decide
      have g97 : ∀ x : Int32, mm_go E Γ 4 97 [(0, mm_rf E 136), (1, .int (nI s)), (2, .int (nI n)), (3, .int x)] [] w (mm_up g 136 19 1) 0 0 := fun x => by
        refine s_MD_push_97 h hw (fun z => absurd z n0) (fun _ => ?_)
        refine s_MD_push_121 h he (Nat.le_refl _) (Nat.le_refl _) hw ?_
        rw [mm_up_ne (c := 136) (k := 30) _ _ (by omega), e0]; exact mm_Pr
      exact s_MD_push_59 h hw (fun _ => g97 _) (fun _ _ => g97 _) (fun _ z => absurd z n0) (fun _ z => absurd z n0) (fun _ z => absurd z n0)
    · exact absurd (by rw [hn]; exact Int32.le_refl _) q
  have loop : ∀ k s' (g : mm_F), s' + k = n → 1 ≤ s' → RS g n m R cl → RD g → puF (n - s) f s = puF k g s' → mm_go E Γ 4 2 [(0, mm_rf E 136), (1, .int (nI s)), (2, .int (nI s'))] [] w g 0 0 := by
    intro k
    induction k with
    | zero =>
      intro s' g hs' h1' hg hgd hx
      have : s' = n := by omega
      subst this
      refine s_MD_push_2 (vl0 := 0) (vc0 := 0) (vs0 := 0) (P0 := fun _ _ _ => False) h hw (fun _ => outp g hg hgd hx) (by omega) (by omega) (by omega) (fun q => ?_) (fun q => ?_)
      all_goals exact absurd (by rw [hg.1]; exact Int32.le_refl _) q
    | succ k ih =>
      intro s' g hs' h1' hg hgd hx
      have hq := hg.2.2.2.2.2.2.2.2.2 s' h1' (by omega)
      have e0 : puF (k + 1) g s' = if (goF g s').2 = 0 then (goF g s').1 else puF k (goF g s').1 (s' + 1) := rfl
      rw [← hx] at e0
      have hg2 := hg.of (goF_fr g s')
      refine s_MD_push_2 (vl0 := 1) (vc0 := 0) (vs0 := 0) h hw (fun q => ?_) (by omega) (by omega) (by omega) (fun _ => c_MD_goesOn hw (by omega) hq) (fun _ => ?_)
      · rw [hg.1, nI_leI (by omega) (by omega)] at q; omega
      rintro _ _ _ ⟨rfl, rfl, rfl⟩
      refine s_MD_push_15 h hw (fun q => ?_) (fun q => ?_)
      · rw [if_pos q] at e0
        refine s_MD_push_25 h he (Nat.le_refl _) (Nat.le_refl _) hw (fun q => ?_) (fun q => ?_) (fun _ => by rw [e0]; exact mm_Pr)
        all_goals (rw [hg2.1, nI_leI (by omega) (by omega)] at q; omega)
      · rw [if_neg q] at e0
        rw [nI_1]
        exact ih (s' + 1) _ (by omega) (by omega) hg2 (goF_RD hq hgd) e0
  exact s_MD_push_0 h hw (loop (n - s) s f (by omega) h1 hr hd rfl)
end CMD7
