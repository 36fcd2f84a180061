/-! Contracts of a run: how a step reacts. -/
def wkR (f : mm_F) (n s : Nat) (e : Int32) : mm_F × Int32 :=
  if (f (56 + 2 * s) 5).toNatClampNeg < (f (4 + 12 * (f (56 + 2 * s) 3).toNatClampNeg) 1).toNatClampNeg ∧ tc f (f (56 + 2 * s) 3).toNatClampNeg (f (56 + 2 * s) 4).toNatClampNeg (to f (f (56 + 2 * s) 3).toNatClampNeg (f (56 + 2 * s) 4).toNatClampNeg (f (56 + 2 * s) 5).toNatClampNeg).toNatClampNeg ≤ f (56 + 2 * s) 6 then
    (if f n 4 < f n 3 then (wkF f n s (f (56 + 2 * s) 3).toNatClampNeg (f (4 + 12 * (f (56 + 2 * s) 3).toNatClampNeg) 0).toNatClampNeg (f (56 + 2 * s) 2).toNatClampNeg (to f (f (56 + 2 * s) 3).toNatClampNeg (f (56 + 2 * s) 4).toNatClampNeg (f (56 + 2 * s) 5).toNatClampNeg).toNatClampNeg, 1) else (f, 3))
  else (f, e)
def waF (f : mm_F) (n s : Nat) : mm_F × Int32 :=
  if f (56 + 2 * s) 0 = 1 ∨ f (56 + 2 * s) 0 = 2 then wkR f n s 2 else if f (56 + 2 * s) 0 = 5 then wkR f n s 0 else if f (56 + 2 * s) 0 = 7 then (f, if f (56 + 2 * s) 7 = 0 then 2 else 0) else (f, if f (56 + 2 * s) 8 = 0 then 0 else 2)
/-- the cell of the row that word k of the step names -/
def clF (f : mm_F) (n s k : Nat) : Int32 := f (n + 1) (f 54 ((f (56 + 2 * s) 1).toNatClampNeg + k)).toNatClampNeg
def jwF (f : mm_F) (n s : Nat) : mm_F := bwF (cpC f (n + 1) (57 + 2 * s) (f (56 + 2 * s) 2).toNatClampNeg) s (f (56 + 2 * s) 3).toNatClampNeg (f (56 + 2 * s) 4).toNatClampNeg (f (4 + 12 * (f (56 + 2 * s) 3).toNatClampNeg) 1).toNatClampNeg (clF f n s 3) (clF f n s 3)
def wvF (f : mm_F) (n s : Nat) : mm_F × Int32 :=
  if f (56 + 2 * s) 0 = 3 then (f, bI (hlF (clF f n s 1) (f 54 ((f (56 + 2 * s) 1).toNatClampNeg + 2)) (f 54 ((f (56 + 2 * s) 1).toNatClampNeg + 3))))
  else if f (56 + 2 * s) 0 = 4 then (piF f n s (f (56 + 2 * s) 1).toNatClampNeg (f 54 ((f (56 + 2 * s) 1).toNatClampNeg + 1)).toNatClampNeg, 1)
  else if f (56 + 2 * s) 0 = 5 then wkR (jwF f n s) n s 0
  else if f (56 + 2 * s) 0 = 6 then sgF f s
  else if f (56 + 2 * s) 0 = 7 then (mm_up f (56 + 2 * s) 7 (f (56 + 2 * s) 7 - 1), 1)
  else if f (56 + 2 * s) 0 = 8 then (mm_up f (56 + 2 * s) 7 (f (56 + 2 * s) 7 + 1), 0)
  else if f (56 + 2 * s) 0 = 9 then (mm_up f (56 + 2 * s) 7 (f (56 + 2 * s) 7 + clF f n s 1), 0)
  else if f (56 + 2 * s) 0 = 10 then agF f n s (clF f n s 1)
  else (f, 2)
def reF (f : mm_F) (n s : Nat) (news : Int32) : mm_F × Int32 := if news = 0 then waF f n s else if news = 1 then wvF f n s else weF f n s
/-- a step whose walk goes through table t in the order of column c -/
def wOK (f : mm_F) (s t c x m cols wb : Nat) : Prop := t < 4 ∧ c < 4 ∧ f (56 + 2 * s) 3 = nI t ∧ f (56 + 2 * s) 4 = nI c ∧ f (56 + 2 * s) 5 = nI x ∧ x ≤ m ∧ f (4 + 12 * t) 1 = nI m ∧ m ≤ 48 ∧ f (4 + 12 * t) 0 = nI cols ∧ cols ≤ 4 ∧ f (56 + 2 * s) 2 = nI wb ∧ wb + cols ≤ 8 ∧ tb_up f t c m
/-- what a step leans on when it reacts -/
def sOK (f : mm_F) (s : Nat) : Prop := ∃ p wb : Nat, f (56 + 2 * s) 1 = nI p ∧ p < 40 ∧ f (56 + 2 * s) 2 = nI wb ∧ wb ≤ 8 ∧
  ((f (56 + 2 * s) 0 = 1 ∨ f (56 + 2 * s) 0 = 2 ∨ f (56 + 2 * s) 0 = 5) → ∃ t c x m cols, wOK f s t c x m cols wb) ∧
  (f (56 + 2 * s) 0 = 3 → p + 3 < 40 ∧ ∃ c, c < 8 ∧ f 54 (p + 1) = nI c) ∧
  (f (56 + 2 * s) 0 = 4 → ∃ k, k ≤ 8 ∧ p + 1 + k < 40 ∧ f 54 (p + 1) = nI k ∧ ∀ i, i < k → ∃ c, c < 8 ∧ f 54 (p + 2 + i) = nI c) ∧
  (f (56 + 2 * s) 0 = 5 → p + 3 < 40 ∧ ∃ c, c < 8 ∧ f 54 (p + 3) = nI c) ∧
  ((f (56 + 2 * s) 0 = 9 ∨ f (56 + 2 * s) 0 = 10) → p + 1 < 40 ∧ ∃ c, c < 8 ∧ f 54 (p + 1) = nI c)
section CRN2
variable {E : mm_E} {w : mm_W} {f : mm_F} {n s : Nat}
theorem c_RN_walkR {t c x m cols wb : Nat} {e : Int32} (hw : mm_sh w) (hr : mm_run w n) (hs : s < 39) (hk : wOK f s t c x m cols wb) :
    mm_C E y_RN_walkOn b_RN_walkOn 4 (some .int) 1 0 0 [mm_rf E n, mm_rf E (56 + 2 * s), .int e] w f (mm_P (some (.int (wkR f n s e).2)) w (wkR f n s e).1) := by
  obtain ⟨ht, hc, h3, h4, h5, hx, hm, hm2, hcl, hcl2, h2, hwb, hu⟩ := hk
  have hq : x < m → to f t c x = nI (to f t c x).toNatClampNeg ∧ (to f t c x).toNatClampNeg < 48 := fun hlt => by
    obtain ⟨q, hq, eq⟩ := hu.1 x hlt
    rw [eq, nI_clamp (by omega)]
    exact ⟨rfl, hq⟩
  have key := c_RN_walkOn (E := E) (e := e) hw hr hs ht hc h3 h4 h5 hx hm hm2 hcl hcl2 h2 hwb hq
  refine key.imp fun r w1 f1 h => ?_
  unfold wkR
  rw [h3, h4, h5, h2, nI_clamp (n := t) (by omega), nI_clamp (n := c) (by omega), nI_clamp (n := x) (by omega), nI_clamp (n := wb) (by omega), hm, hcl, nI_clamp (n := m) (by omega), nI_clamp (n := cols) (by omega)]
  by_cases c1 : x < m ∧ tc f t c (to f t c x).toNatClampNeg ≤ f (56 + 2 * s) 6
  · rw [if_pos c1] at h ⊢
    by_cases c2 : f n 4 < f n 3
    · rw [if_pos c2] at h ⊢; exact h
    · rw [if_neg c2] at h ⊢; exact h
  · rw [if_neg c1] at h ⊢; exact h
theorem c_RN_whenAsked (hw : mm_sh w) (hr : mm_run w n) (hs : s < 39) (hok : sOK f s) : mm_C E y_RN_whenAsked b_RN_whenAsked 2 (some .int) 2 0 0 [mm_rf E n, mm_rf E (56 + 2 * s)] w f (mm_P (some (.int (waF f n s).2)) w (waF f n s).1) := by
  refine mm_start (by decide) rfl (Nat.le_of_ble_eq_true rfl) fun Γ h he => ?_
  obtain ⟨p, wb, hp, hp2, hb, hb2, k125, -, -, -, -⟩ := hok
  have z48 : (f (56 + 2 * s) 0 = 1 ∨ f (56 + 2 * s) 0 = 2) → mm_go E Γ 2 48 [(0, mm_rf E n), (1, mm_rf E (56 + 2 * s))] [] w f 0 0 := fun q => by
    obtain ⟨t, c, x, m, cols, hk⟩ := k125 (by rcases q with q | q <;> simp [q])
    refine s_RN_whenAsked_48 (vl0 := 1) (vc0 := 0) (vs0 := 0) h hw hr hs (by omega) (by omega) (by omega) (c_RN_walkR hw hr hs hk) ?_
    rintro _ _ _ ⟨rfl, rfl, rfl⟩
    refine s_RN_whenAsked_54 h he (Nat.le_refl _) (Nat.le_refl _) hw hr hs ?_
    unfold waF
    rw [if_pos q]
    exact mm_Pr
  have z75 : ¬ (f (56 + 2 * s) 0 = 1 ∨ f (56 + 2 * s) 0 = 2) → ¬ f (56 + 2 * s) 0 = 5 → ¬ f (56 + 2 * s) 0 = 7 → mm_go E Γ 2 75 [(0, mm_rf E n), (1, mm_rf E (56 + 2 * s))] [] w f 0 0 := fun q1 q2 q3 => by
    refine s_RN_whenAsked_75 h hw hr hs (fun q => ?_) (fun q => ?_)
    · refine s_RN_whenAsked_87 h he (Nat.le_refl _) (Nat.le_refl _) hw hr hs ?_
      unfold waF
      rw [if_neg q1, if_neg q2, if_neg q3, if_pos q]
      exact mm_Pr
    · refine s_RN_whenAsked_87 h he (Nat.le_refl _) (Nat.le_refl _) hw hr hs ?_
      unfold waF
      rw [if_neg q1, if_neg q2, if_neg q3, if_neg q]
      exact mm_Pr
  refine s_RN_whenAsked_0 h hw hr hs (fun c1 => z48 (Or.inl c1)) (fun _ c2 => z48 (Or.inr c2)) (fun c1 c2 c3 => z75 (by simp [c1, c2]) (by rw [c3]; decide) (by rw [c3]; decide)) (fun c1 c2 _ c4 => z75 (by simp [c1, c2]) (by rw [c4]; decide) (by rw [c4]; decide)) (fun c1 c2 _ _ c5 => ?_) (fun c1 c2 _ _ _ c6 => z75 (by simp [c1, c2]) (by rw [c6]; decide) (by rw [c6]; decide)) (fun c1 c2 _ _ c5 _ c7 => ?_) (fun c1 c2 _ _ c5 _ c7 => z75 (by simp [c1, c2]) c5 c7)
  · obtain ⟨t, c, x, m, cols, hk⟩ := k125 (Or.inr (Or.inr c5))
    refine s_RN_whenAsked_55 (vl0 := 1) (vc0 := 0) (vs0 := 0) h hw hr hs (by omega) (by omega) (by omega) (c_RN_walkR hw hr hs hk) ?_
    rintro _ _ _ ⟨rfl, rfl, rfl⟩
    refine s_RN_whenAsked_61 h he (Nat.le_refl _) (Nat.le_refl _) hw hr hs ?_
    unfold waF
    rw [if_neg (by simp [c1, c2]), if_pos c5]
    exact mm_Pr
  · refine s_RN_whenAsked_62 h hw hr hs (fun q => ?_) (fun q => ?_)
    · refine s_RN_whenAsked_74 h he (Nat.le_refl _) (Nat.le_refl _) hw hr hs ?_
      unfold waF
      rw [if_neg (by simp [c1, c2]), if_neg c5, if_pos c7, if_neg q]
      exact mm_Pr
    · refine s_RN_whenAsked_74 h he (Nat.le_refl _) (Nat.le_refl _) hw hr hs ?_
      unfold waF
      rw [if_neg (by simp [c1, c2]), if_neg c5, if_pos c7, if_pos q]
      exact mm_Pr
theorem c_RN_whenGiven (hw : mm_sh w) (hr : mm_run w n) (hs : s < 39) (hok : sOK f s) : mm_C E y_RN_whenGiven b_RN_whenGiven 2 (some .int) 3 0 0 [mm_rf E n, mm_rf E (56 + 2 * s)] w f (mm_P (some (.int (wvF f n s).2)) w (wvF f n s).1) := by
  refine mm_start (by decide) rfl (Nat.le_of_ble_eq_true rfl) fun Γ h he => ?_
  obtain ⟨p, wb, hp, hp2, hb, hb2, k125, k3, k4, k5, k9⟩ := hok
  have hN : 153 ≤ n := hr.1
  have hn1 : mm_ar w (n + 1) 100 8 := hr.2.2.2.2.2.2
  have i1 : (1 : Int32) = nI 1 := rfl
  have i2 : (2 : Int32) = nI 2 := rfl
  have i3 : (3 : Int32) = nI 3 := rfl
  have ep := nI_clamp (n := p) (by omega)
  have hcl : ∀ k c, f 54 (p + k) = nI c → c < 8 → clF f n s k = f (n + 1) c := fun k c e hc => by
    unfold clF
    rw [hp, ep, e, nI_clamp (by omega)]
  have hv : wvF f n s = (if f (56 + 2 * s) 0 = 3 then (f, bI (hlF (clF f n s 1) (f 54 ((f (56 + 2 * s) 1).toNatClampNeg + 2)) (f 54 ((f (56 + 2 * s) 1).toNatClampNeg + 3))))
    else if f (56 + 2 * s) 0 = 4 then (piF f n s (f (56 + 2 * s) 1).toNatClampNeg (f 54 ((f (56 + 2 * s) 1).toNatClampNeg + 1)).toNatClampNeg, 1)
    else if f (56 + 2 * s) 0 = 5 then wkR (jwF f n s) n s 0
    else if f (56 + 2 * s) 0 = 6 then sgF f s
    else if f (56 + 2 * s) 0 = 7 then (mm_up f (56 + 2 * s) 7 (f (56 + 2 * s) 7 - 1), 1)
    else if f (56 + 2 * s) 0 = 8 then (mm_up f (56 + 2 * s) 7 (f (56 + 2 * s) 7 + 1), 0)
    else if f (56 + 2 * s) 0 = 9 then (mm_up f (56 + 2 * s) 7 (f (56 + 2 * s) 7 + clF f n s 1), 0)
    else if f (56 + 2 * s) 0 = 10 then agF f n s (clF f n s 1)
    else (f, 2)) := rfl
  refine s_RN_whenGiven_0 h hw hr hs (fun c1 => ?_) (fun c1 c2 => ?_) (fun c1 c2 c3 => ?_) (fun c1 c2 c3 c4 => ?_) (fun c1 c2 c3 c4 c5 => ?_) (fun c1 c2 c3 c4 c5 c6 => ?_) (fun c1 c2 c3 c4 c5 c6 c7 => ?_) (fun c1 c2 c3 c4 c5 c6 c7 c8 => ?_) (fun c1 c2 c3 c4 c5 c6 c7 c8 => ?_)
  · obtain ⟨hp3, c, hc, ec⟩ := k3 c1
    rw [if_pos c1, hp, ep, hcl 1 c ec hc] at hv
    refine s_RN_whenGiven_52 (vl0 := 1) (vc0 := 0) (vs0 := 0) h hw hr hs (by omega) (by omega) (by omega) (by rw [i1]; exact c_RN_cellOf hw hr hs hp (by omega) ec hc) ?_
    rintro _ _ _ ⟨rfl, rfl, rfl⟩
    refine s_RN_whenGiven_58 (vl0 := 0) (vc0 := 0) (vs0 := 0) h hw hr hs (by omega) (by omega) (by omega) (by rw [i2]; exact c_RN_wordOf hw hr hs hp (by omega)) ?_
    rintro _ _ _ ⟨rfl, rfl, rfl⟩
    refine s_RN_whenGiven_64 (vl0 := 0) (vc0 := 0) (vs0 := 0) h hw hr hs (by omega) (by omega) (by omega) (by rw [i3]; exact c_RN_wordOf hw hr hs hp (by omega)) ?_
    rintro _ _ _ ⟨rfl, rfl, rfl⟩
    refine s_RN_whenGiven_70 (vl0 := 0) (vc0 := 0) (vs0 := 0) h hw hr hs (by omega) (by omega) (by omega) (c_RN_holds hw) ?_
    rintro _ _ _ ⟨rfl, rfl, rfl⟩
    generalize hlF (f (n + 1) c) (f 54 (p + 2)) (f 54 (p + 3)) = b at hv ⊢
    refine s_RN_whenGiven_73 h hw hr hs (fun q => ?_) (fun q => ?_)
    · refine s_RN_whenGiven_81 h he (Nat.le_refl _) (Nat.le_refl _) hw hr hs ?_
      rw [hv]
      rw [q]
      exact mm_Pr
    · refine s_RN_whenGiven_81 h he (Nat.le_refl _) (Nat.le_refl _) hw hr hs ?_
      have hb1 : bI b = 1 := (bI_01 b).resolve_left q
      rw [hv, hb1]
      exact mm_Pr
  · obtain ⟨k, hk, hpk, ek, hcs⟩ := k4 c2
    rw [if_neg c1, if_pos c2, hp, ep, ek, nI_clamp (by omega)] at hv
    refine s_RN_whenGiven_82 (vl0 := 2) (vc0 := 0) (vs0 := 0) h hw hr hs (by omega) (by omega) (by omega) (c_RN_pick hw hr hs hp ek hk hpk hcs) ?_
    rintro _ _ _ ⟨rfl, rfl, rfl⟩
    refine s_RN_whenGiven_87 h he (Nat.le_refl _) (Nat.le_refl _) hw hr hs ?_
    rw [hv]
    exact mm_Pr
  · obtain ⟨hp3, cw, hcw, ecw⟩ := k5 c3
    obtain ⟨t, c, x, m, cols, ht, hc, h3, h4, h5, hx, hm, hm2, hcl1, hcl2, h2, hwb, hu⟩ := k125 (Or.inr (Or.inr c3))
    rw [if_neg c1, if_neg c2, if_pos c3] at hv
    unfold jwF at hv
    rw [h2, h3, h4, hcl 3 cw ecw hcw, nI_clamp (n := wb) (by omega), nI_clamp (n := t) (by omega), nI_clamp (n := c) (by omega), hm, nI_clamp (n := m) (by omega)] at hv
    have fr : ∀ a j, a ≠ 57 + 2 * s → cpC f (n + 1) (57 + 2 * s) wb a j = f a j := fun a j ha => by
      unfold cpC
      rw [if_neg (by omega)]
    have fra : ∀ a, a ≠ 57 + 2 * s → cpC f (n + 1) (57 + 2 * s) wb a = f a := fun a ha => funext fun j => fr a j ha
    have hu1 : tb_up (cpC f (n + 1) (57 + 2 * s) wb) t c m := by
      unfold tb_up tc to at hu ⊢
      rw [fra (12 + 12 * t + c) (by omega), fra (7 + 12 * t + c) (by omega)]
      exact hu
    refine s_RN_whenGiven_89 (vl0 := 0) (vc0 := 0) (vs0 := 0) h hw hr hs (by omega) (by omega) (by omega) (by rw [h2]; exact c_RN_copyCells hw hn1 (is_SK hw hs) (by omega) (by omega) (by omega) (by omega) (by omega)) ?_
    rintro _ _ _ ⟨rfl, rfl, rfl⟩
    have hcell := c_RN_cellOf (E := E) (f := cpC f (n + 1) (57 + 2 * s) wb) (k := 3) (c := cw) hw hr hs (by rw [fr _ 1 (by omega)]; exact hp) (by omega) (by rw [fr 54 _ (by omega)]; exact ecw) hcw
    rw [fr (n + 1) cw (by omega)] at hcell
    refine s_RN_whenGiven_104 (vl0 := 1) (vc0 := 0) (vs0 := 0) h hw hr hs (by omega) (by omega) (by omega) (by rw [i3]; exact hcell) ?_
    rintro _ _ _ ⟨rfl, rfl, rfl⟩
    refine s_RN_whenGiven_112 (vl0 := 1) (vc0 := 0) (vs0 := 0) h hw hr hs hr hs (by omega) (by omega) (by omega) (by rw [i3]; exact hcell) ?_
    rintro _ _ _ ⟨rfl, rfl, rfl⟩
    refine s_RN_whenGiven_118 (vl0 := 2) (vc0 := 0) (vs0 := 0) h hw hr hs hr hs (by omega) (by omega) (by omega) (c_RN_beginWalk hw hr hs ht hc (by rw [fr _ 3 (by omega)]; exact h3) (by rw [fr _ 4 (by omega)]; exact h4) (by rw [fr _ 1 (by omega)]; exact hm) hm2 hu1) ?_
    rintro _ _ _ ⟨rfl, rfl, rfl⟩
    generalize hG : bwF (cpC f (n + 1) (57 + 2 * s) wb) s t c m (f (n + 1) cw) (f (n + 1) cw) = g at hv ⊢
    have gr : ∀ a j, a ≠ 56 + 2 * s → g a j = cpC f (n + 1) (57 + 2 * s) wb a j := fun a j ha => by
      rw [← hG]
      unfold bwF
      rw [mm_up_ne _ _ (by omega), mm_up_ne _ _ (by omega)]
    have gr2 : ∀ j, j ≠ 5 → j ≠ 6 → g (56 + 2 * s) j = f (56 + 2 * s) j := fun j h1 h2 => by
      rw [← hG]
      unfold bwF
      rw [mm_up_ne _ _ (by omega), mm_up_ne _ _ (by omega), fr _ j (by omega)]
    have g5 : g (56 + 2 * s) 5 = nI (tb_below (cpC f (n + 1) (57 + 2 * s) wb) t c m (f (n + 1) cw)) := by
      rw [← hG]
      unfold bwF
      rw [mm_up_ne _ _ (by omega), mm_up_eq]
    have hgu : tb_up g t c m := by
      have e1 : g (12 + 12 * t + c) = cpC f (n + 1) (57 + 2 * s) wb (12 + 12 * t + c) := funext fun j => gr _ j (by omega)
      have e2 : g (7 + 12 * t + c) = cpC f (n + 1) (57 + 2 * s) wb (7 + 12 * t + c) := funext fun j => gr _ j (by omega)
      unfold tb_up tc to at hu1 ⊢
      rw [e1, e2]
      exact hu1
    have hk : wOK g s t c (tb_below (cpC f (n + 1) (57 + 2 * s) wb) t c m (f (n + 1) cw)) m cols wb := ⟨ht, hc, by rw [gr2 3 (by omega) (by omega)]; exact h3, by rw [gr2 4 (by omega) (by omega)]; exact h4, g5, cn_le _ _, by rw [gr _ 1 (by omega), fr _ 1 (by omega)]; exact hm, hm2, by rw [gr _ 0 (by omega), fr _ 0 (by omega)]; exact hcl1, hcl2, by rw [gr2 2 (by omega) (by omega)]; exact h2, hwb, hgu⟩
    refine s_RN_whenGiven_121 (vl0 := 1) (vc0 := 0) (vs0 := 0) h hw hr hs (by omega) (by omega) (by omega) (c_RN_walkR hw hr hs hk) ?_
    rintro _ _ _ ⟨rfl, rfl, rfl⟩
    refine s_RN_whenGiven_127 h he (Nat.le_refl _) (Nat.le_refl _) hw hr hs ?_
    rw [hv]
    exact mm_Pr
  · rw [if_neg c1, if_neg c2, if_neg c3, if_pos c4] at hv
    refine s_RN_whenGiven_128 (vl0 := 0) (vc0 := 0) (vs0 := 0) h hw hr hs (by omega) (by omega) (by omega) (c_RN_skipOrGive hw hr hs) ?_
    rintro _ _ _ ⟨rfl, rfl, rfl⟩
    refine s_RN_whenGiven_133 h he (Nat.le_refl _) (Nat.le_refl _) hw hr hs ?_
    rw [hv]
    exact mm_Pr
  · rw [if_neg c1, if_neg c2, if_neg c3, if_neg c4, if_pos c5] at hv
    refine s_RN_whenGiven_134 h he (Nat.le_refl _) (Nat.le_refl _) hw hr hs ?_
    rw [hv]
    exact mm_Pr
  · rw [if_neg c1, if_neg c2, if_neg c3, if_neg c4, if_neg c5, if_pos c6] at hv
    refine s_RN_whenGiven_146 h he (Nat.le_refl _) (Nat.le_refl _) hw hr hs ?_
    rw [hv]
    exact mm_Pr
  · obtain ⟨hp1, c, hc, ec⟩ := k9 (Or.inl c7)
    rw [if_neg c1, if_neg c2, if_neg c3, if_neg c4, if_neg c5, if_neg c6, if_pos c7, hcl 1 c ec hc] at hv
    refine s_RN_whenGiven_158 (vl0 := 1) (vc0 := 0) (vs0 := 0) h hw hr hs (by omega) (by omega) (by omega) (by rw [i1]; exact c_RN_cellOf hw hr hs hp (by omega) ec hc) ?_
    rintro _ _ _ ⟨rfl, rfl, rfl⟩
    refine s_RN_whenGiven_169 h he (Nat.le_refl _) (Nat.le_refl _) hw hr hs hs ?_
    rw [hv]
    exact mm_Pr
  · obtain ⟨hp1, c, hc, ec⟩ := k9 (Or.inr c8)
    rw [if_neg c1, if_neg c2, if_neg c3, if_neg c4, if_neg c5, if_neg c6, if_neg c7, if_pos c8, hcl 1 c ec hc] at hv
    refine s_RN_whenGiven_175 (vl0 := 1) (vc0 := 0) (vs0 := 0) h hw hr hs (by omega) (by omega) (by omega) (by rw [i1]; exact c_RN_cellOf hw hr hs hp (by omega) ec hc) ?_
    rintro _ _ _ ⟨rfl, rfl, rfl⟩
    refine s_RN_whenGiven_183 (vl0 := 1) (vc0 := 0) (vs0 := 0) h hw hr hs hr hs (by omega) (by omega) (by omega) (c_RN_addToGroup hw hr hs) ?_
    rintro _ _ _ ⟨rfl, rfl, rfl⟩
    refine s_RN_whenGiven_186 h he (Nat.le_refl _) (Nat.le_refl _) hw hr hs ?_
    rw [hv]
    exact mm_Pr
  · rw [if_neg c1, if_neg c2, if_neg c3, if_neg c4, if_neg c5, if_neg c6, if_neg c7, if_neg c8] at hv
    refine s_RN_whenGiven_187 h he (Nat.le_refl _) (Nat.le_refl _) hw hr hs ?_
    rw [hv]
    exact mm_Pr
theorem c_RN_react {news : Int32} (hw : mm_sh w) (hr : mm_run w n) (hs : s < 39) (hok : sOK f s) : mm_C E y_RN_react b_RN_react 3 (some .int) 4 0 0 [mm_rf E n, mm_rf E (56 + 2 * s), .int news] w f (mm_P (some (.int (reF f n s news).2)) w (reF f n s news).1) := by
  refine mm_start (by decide) rfl (Nat.le_of_ble_eq_true rfl) fun Γ h he => ?_
  refine s_RN_react_0 (vl0 := 1) (vc0 := 0) (vs0 := 0) (vl1 := 3) (vc1 := 0) (vs1 := 0) (vl2 := 2) (vc2 := 0) (vs2 := 0) h hw hr hs (by omega) (by omega) (by omega) (fun _ _ => c_RN_whenEnded hw hr hs) (fun c1 c2 => ?_) (by omega) (by omega) (by omega) (fun _ _ => c_RN_whenGiven hw hr hs hok) (fun c1 c2 => ?_) (by omega) (by omega) (by omega) (fun _ => c_RN_whenAsked hw hr hs hok) (fun c1 => ?_)
  · rintro _ _ _ ⟨rfl, rfl, rfl⟩
    refine s_RN_react_28 h he (Nat.le_refl _) (Nat.le_refl _) hw hr hs ?_
    unfold reF
    rw [if_neg c1, if_neg c2]
    exact mm_Pr
  · rintro _ _ _ ⟨rfl, rfl, rfl⟩
    refine s_RN_react_20 h hw hr hs ?_
    refine s_RN_react_28 h he (Nat.le_refl _) (Nat.le_refl _) hw hr hs ?_
    unfold reF
    rw [if_neg c1, if_pos c2]
    exact mm_Pr
  · rintro _ _ _ ⟨rfl, rfl, rfl⟩
    refine s_RN_react_9 h he (Nat.le_refl _) (Nat.le_refl _) hw hr hs ?_
    unfold reF
    rw [if_pos c1]
    exact mm_Pr
end CRN2
