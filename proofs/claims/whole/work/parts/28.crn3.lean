/-! Contracts of a run: how a step begins, and the loop that asks for all rows. -/
def b0F (f : mm_F) (s : Nat) : mm_F := mm_up (mm_up f (56 + 2 * s) 7 0) (56 + 2 * s) 8 0
/-- word k of step s -/
def wdF (f : mm_F) (s k : Nat) : Int32 := f 54 ((f (56 + 2 * s) 1).toNatClampNeg + k)
def beF (f : mm_F) (s : Nat) : mm_F :=
  if f (56 + 2 * s) 0 = 1 then bwF (mm_up (mm_up (b0F f s) (56 + 2 * s) 3 (wdF f s 1)) (56 + 2 * s) 4 0) s (wdF f s 1).toNatClampNeg 0 (f (4 + 12 * (wdF f s 1).toNatClampNeg) 1).toNatClampNeg (-2147483648) 2147483647
  else if f (56 + 2 * s) 0 = 2 then bwF (mm_up (mm_up (b0F f s) (56 + 2 * s) 3 (wdF f s 1)) (56 + 2 * s) 4 (wdF f s 2)) s (wdF f s 1).toNatClampNeg (wdF f s 2).toNatClampNeg (f (4 + 12 * (wdF f s 1).toNatClampNeg) 1).toNatClampNeg (wdF f s 3) (wdF f s 4)
  else if f (56 + 2 * s) 0 = 5 then mm_up (mm_up (mm_up (b0F f s) (56 + 2 * s) 3 (wdF f s 1)) (56 + 2 * s) 4 (wdF f s 2)) (56 + 2 * s) 5 (f (4 + 12 * (wdF f s 1).toNatClampNeg) 1)
  else if f (56 + 2 * s) 0 = 6 ∨ f (56 + 2 * s) 0 = 7 then mm_up (b0F f s) (56 + 2 * s) 7 (wdF f s 1)
  else b0F f s
/-- what a step leans on when it begins -/
def tOK (f : mm_F) (s : Nat) : Prop := ∃ p : Nat, f (56 + 2 * s) 1 = nI p ∧ p < 40 ∧
  (f (56 + 2 * s) 0 = 1 → p + 1 < 40 ∧ ∃ t m, t < 4 ∧ f 54 (p + 1) = nI t ∧ f (4 + 12 * t) 1 = nI m ∧ m ≤ 48 ∧ tb_up f t 0 m) ∧
  (f (56 + 2 * s) 0 = 2 → p + 4 < 40 ∧ ∃ t c m, t < 4 ∧ c < 4 ∧ f 54 (p + 1) = nI t ∧ f 54 (p + 2) = nI c ∧ f (4 + 12 * t) 1 = nI m ∧ m ≤ 48 ∧ tb_up f t c m) ∧
  (f (56 + 2 * s) 0 = 5 → p + 2 < 40 ∧ ∃ t, t < 4 ∧ f 54 (p + 1) = nI t) ∧
  ((f (56 + 2 * s) 0 = 6 ∨ f (56 + 2 * s) 0 = 7) → p + 1 < 40)
def itB : Nat → mm_F → mm_F
  | 0, f => f
  | k + 1, f => beF (itB k f) k
/-- one move: the step at a reacts; the answer, or where it goes on -/
def nxM (f : mm_F) (n last a : Nat) (news : Int32) : Option Int32 × mm_F × Nat × Int32 :=
  if (reF f n a news).2 = 3 then (some 3, (reF f n a news).1, a, 3)
  else if (reF f n a news).2 = 0 then (none, (reF f n a news).1, a - 1, 0)
  else if a < last then (none, (reF f n a news).1, a + 1, (reF f n a news).2)
  else if (reF f n a news).2 = 2 then (some 2, (reF f n a news).1, a, 2)
  else if ((reF f n a news).1 134 1).toNatClampNeg + ((reF f n a news).1 53 3).toNatClampNeg ≤ 64 then
    (none, mm_up (mm_up (ocp (reF f n a news).1 (n + 1) ((reF f n a news).1 134 1).toNatClampNeg ((reF f n a news).1 53 3).toNatClampNeg) 134 1 (nI (((reF f n a news).1 134 1).toNatClampNeg + ((reF f n a news).1 53 3).toNatClampNeg))) 134 2 ((reF f n a news).1 134 2 + 1), a, 0)
  else (some 4, (reF f n a news).1, a, 0)
def ruM : Nat → mm_F → Nat → Nat → Nat → Int32 → Option (Int32 × mm_F)
  | 0, _, _, _, _, _ => none
  | k + 1, f, n, last, a, news => match nxM f n last a news with
    | (some r, g, _, _) => some (r, g)
    | (none, g, a', nw) => ruM k g n last a' nw
section CRN3
variable {E : mm_E} {w : mm_W} {f : mm_F} {n s : Nat}
theorem tb_up_congr {f g : mm_F} {t c m : Nat} (h1 : g (12 + 12 * t + c) = f (12 + 12 * t + c)) (h2 : g (7 + 12 * t + c) = f (7 + 12 * t + c)) (h : tb_up f t c m) : tb_up g t c m := by
  unfold tb_up tc to at h ⊢
  rw [h1, h2]
  exact h
theorem c_RN_begin (hw : mm_sh w) (hr : mm_run w n) (hs : s < 39) (hok : tOK f s) : mm_C E y_RN_begin b_RN_begin 2 none 3 0 0 [mm_rf E n, mm_rf E (56 + 2 * s)] w f (mm_P none w (beF f s)) := by
  refine mm_start (by decide) rfl (Nat.le_of_ble_eq_true rfl) fun Γ h he => ?_
  obtain ⟨p, hp, hp2, k1, k2, k5, k6⟩ := hok
  have ep := nI_clamp (n := p) (by omega)
  have i1 : (1 : Int32) = nI 1 := rfl
  have i2 : (2 : Int32) = nI 2 := rfl
  have i3 : (3 : Int32) = nI 3 := rfl
  have i4 : (4 : Int32) = nI 4 := rfl
  have hwd : ∀ k, wdF f s k = f 54 (p + k) := fun k => by unfold wdF; rw [hp, ep]
  have hv : beF f s = (if f (56 + 2 * s) 0 = 1 then bwF (mm_up (mm_up (b0F f s) (56 + 2 * s) 3 (wdF f s 1)) (56 + 2 * s) 4 0) s (wdF f s 1).toNatClampNeg 0 (f (4 + 12 * (wdF f s 1).toNatClampNeg) 1).toNatClampNeg (-2147483648) 2147483647
    else if f (56 + 2 * s) 0 = 2 then bwF (mm_up (mm_up (b0F f s) (56 + 2 * s) 3 (wdF f s 1)) (56 + 2 * s) 4 (wdF f s 2)) s (wdF f s 1).toNatClampNeg (wdF f s 2).toNatClampNeg (f (4 + 12 * (wdF f s 1).toNatClampNeg) 1).toNatClampNeg (wdF f s 3) (wdF f s 4)
    else if f (56 + 2 * s) 0 = 5 then mm_up (mm_up (mm_up (b0F f s) (56 + 2 * s) 3 (wdF f s 1)) (56 + 2 * s) 4 (wdF f s 2)) (56 + 2 * s) 5 (f (4 + 12 * (wdF f s 1).toNatClampNeg) 1)
    else if f (56 + 2 * s) 0 = 6 ∨ f (56 + 2 * s) 0 = 7 then mm_up (b0F f s) (56 + 2 * s) 7 (wdF f s 1)
    else b0F f s) := rfl
  have z178 : ∀ g : mm_F, beF f s = g → mm_go E Γ 2 178 [(0, mm_rf E n), (1, mm_rf E (56 + 2 * s))] [] w g 0 0 := fun g e =>
    s_RN_begin_178 h he (Nat.le_refl _) (Nat.le_refl _) hw hr hs (by rw [e]; exact mm_Pr)
  have b0r : ∀ a j, ¬ (a = 56 + 2 * s ∧ (j = 7 ∨ j = 8)) → b0F f s a j = f a j := fun a j q => by
    unfold b0F
    rw [mm_up_ne _ _ (by omega), mm_up_ne _ _ (by omega)]
  have b0k : (mm_up (mm_up f (56 + 2 * s) 7 0) (56 + 2 * s) 8 0) (56 + 2 * s) 0 = f (56 + 2 * s) 0 := b0r _ 0 (by omega)
  have b0p : b0F f s (56 + 2 * s) 1 = nI p := by rw [b0r _ 1 (by omega)]; exact hp
  have z165 : (f (56 + 2 * s) 0 = 6 ∨ f (56 + 2 * s) 0 = 7) → ¬ f (56 + 2 * s) 0 = 1 → ¬ f (56 + 2 * s) 0 = 2 → ¬ f (56 + 2 * s) 0 = 5 → mm_go E Γ 2 165 [(0, mm_rf E n), (1, mm_rf E (56 + 2 * s))] [] w (b0F f s) 0 0 := fun q q1 q2 q5 => by
    have := k6 q
    refine s_RN_begin_165 (vl0 := 0) (vc0 := 0) (vs0 := 0) h hw hr hs (by omega) (by omega) (by omega) (by rw [i1]; exact c_RN_wordOf hw hr hs b0p (by omega)) ?_
    rintro _ _ _ ⟨rfl, rfl, rfl⟩
    refine s_RN_begin_172 h hw hr hs hs (z178 _ ?_)
    rw [hv, if_neg q1, if_neg q2, if_neg q5, if_pos q, hwd, b0r 54 _ (by omega)]
  refine s_RN_begin_0 h hw hr hs (fun c1 => ?_) (fun c1 c2 => ?_) (fun c1 c2 c3 => ?_) (fun c1 c2 c3 c4 => ?_) (fun c1 c2 c3 c4 c5 => ?_) (fun c1 c2 c3 c4 c5 c6 => ?_) (fun c1 c2 c3 c4 c5 c6 c7 => ?_) (fun c1 c2 c3 c4 c5 c6 c7 => ?_)
  all_goals (rw [b0k] at *)
  all_goals (show mm_go E Γ 2 _ [(0, mm_rf E n), (1, mm_rf E (56 + 2 * s))] [] w (b0F f s) 0 0)
  · obtain ⟨hp1, t, m, ht, et, hm, hm2, hu⟩ := k1 c1
    have ect := nI_clamp (n := t) (by omega)
    rw [if_pos c1, hwd, et, ect, hm, nI_clamp (n := m) (by omega)] at hv
    refine s_RN_begin_56 (vl0 := 0) (vc0 := 0) (vs0 := 0) h hw hr hs (by omega) (by omega) (by omega) (by rw [i1]; exact c_RN_wordOf hw hr hs b0p (by omega)) ?_
    rintro _ _ _ ⟨rfl, rfl, rfl⟩
    rw [b0r 54 _ (by omega), et]
    have gr : ∀ a j, a ≠ 56 + 2 * s → mm_up (mm_up (b0F f s) (56 + 2 * s) 3 (nI t)) (56 + 2 * s) 4 0 a j = f a j := fun a j ha => by
      rw [mm_up_ne _ _ (by omega), mm_up_ne _ _ (by omega), b0r a j (by omega)]
    refine s_RN_begin_63 (vl0 := 2) (vc0 := 0) (vs0 := 0) h hw hr hs hs (by omega) (by omega) (by omega) (c_RN_beginWalk (c := 0) hw hr hs ht (by omega) (by rw [mm_up_ne _ _ (by omega), mm_up_eq]) (by rw [mm_up_eq]; rfl) (by rw [gr _ 1 (by omega)]; exact hm) hm2 (tb_up_congr (f := f) (funext fun j => gr _ j (by omega)) (funext fun j => gr _ j (by omega)) hu)) ?_
    rintro _ _ _ ⟨rfl, rfl, rfl⟩
    exact s_RN_begin_80 h hw hr hs (z178 _ hv)
  · obtain ⟨hp1, t, c, m, ht, hc, et, ec, hm, hm2, hu⟩ := k2 c2
    have ect := nI_clamp (n := t) (by omega)
    rw [if_neg c1, if_pos c2, hwd, hwd, hwd, hwd, et, ec, ect, hm, nI_clamp (n := m) (by omega), nI_clamp (n := c) (by omega)] at hv
    refine s_RN_begin_83 (vl0 := 0) (vc0 := 0) (vs0 := 0) h hw hr hs (by omega) (by omega) (by omega) (by rw [i1]; exact c_RN_wordOf hw hr hs b0p (by omega)) ?_
    rintro _ _ _ ⟨rfl, rfl, rfl⟩
    rw [b0r 54 _ (by omega), et]
    have g1 : ∀ a j, ¬ (a = 56 + 2 * s ∧ (j = 7 ∨ j = 8 ∨ j = 3)) → mm_up (b0F f s) (56 + 2 * s) 3 (nI t) a j = f a j := fun a j q => by
      rw [mm_up_ne _ _ (by omega), b0r a j (by omega)]
    refine s_RN_begin_90 (vl0 := 0) (vc0 := 0) (vs0 := 0) h hw hr hs hs (by omega) (by omega) (by omega) (by rw [i2]; exact c_RN_wordOf hw hr hs (by rw [g1 _ 1 (by omega)]; exact hp) (by omega)) ?_
    rintro _ _ _ ⟨rfl, rfl, rfl⟩
    rw [g1 54 _ (by omega), ec]
    have g2 : ∀ a j, ¬ (a = 56 + 2 * s ∧ (j = 7 ∨ j = 8 ∨ j = 3 ∨ j = 4)) → mm_up (mm_up (b0F f s) (56 + 2 * s) 3 (nI t)) (56 + 2 * s) 4 (nI c) a j = f a j := fun a j q => by
      rw [mm_up_ne _ _ (by omega), g1 a j (by omega)]
    refine s_RN_begin_100 (vl0 := 0) (vc0 := 0) (vs0 := 0) h hw hr hs hs (by omega) (by omega) (by omega) (by rw [i3]; exact c_RN_wordOf hw hr hs (by rw [g2 _ 1 (by omega)]; exact hp) (by omega)) ?_
    rintro _ _ _ ⟨rfl, rfl, rfl⟩
    rw [g2 54 _ (by omega)]
    refine s_RN_begin_111 (vl0 := 0) (vc0 := 0) (vs0 := 0) h hw hr hs hr hs (by omega) (by omega) (by omega) (by rw [i4]; exact c_RN_wordOf hw hr hs (by rw [g2 _ 1 (by omega)]; exact hp) (by omega)) ?_
    rintro _ _ _ ⟨rfl, rfl, rfl⟩
    rw [g2 54 _ (by omega)]
    refine s_RN_begin_117 (vl0 := 2) (vc0 := 0) (vs0 := 0) h hw hr hs hr hs (by omega) (by omega) (by omega) (c_RN_beginWalk hw hr hs ht hc (by rw [mm_up_ne _ _ (by omega), mm_up_eq]) (by rw [mm_up_eq]) (by rw [g2 _ 1 (by omega)]; exact hm) hm2 (tb_up_congr (f := f) (funext fun j => g2 _ j (by omega)) (funext fun j => g2 _ j (by omega)) hu)) ?_
    rintro _ _ _ ⟨rfl, rfl, rfl⟩
    exact s_RN_begin_120 h hw hr hs (z178 _ hv)
  · refine z178 _ ?_
    rw [hv, if_neg c1, if_neg c2, if_neg (by rw [c3]; decide), if_neg (by rw [c3]; decide)]
  · refine z178 _ ?_
    rw [hv, if_neg c1, if_neg c2, if_neg (by rw [c4]; decide), if_neg (by rw [c4]; decide)]
  · obtain ⟨hp1, t, ht, et⟩ := k5 c5
    have ect := nI_clamp (n := t) (by omega)
    rw [if_neg c1, if_neg c2, if_pos c5, hwd, hwd, et, ect] at hv
    refine s_RN_begin_123 (vl0 := 0) (vc0 := 0) (vs0 := 0) h hw hr hs (by omega) (by omega) (by omega) (by rw [i1]; exact c_RN_wordOf hw hr hs b0p (by omega)) ?_
    rintro _ _ _ ⟨rfl, rfl, rfl⟩
    rw [b0r 54 _ (by omega), et]
    have g1 : ∀ a j, ¬ (a = 56 + 2 * s ∧ (j = 7 ∨ j = 8 ∨ j = 3)) → mm_up (b0F f s) (56 + 2 * s) 3 (nI t) a j = f a j := fun a j q => by
      rw [mm_up_ne _ _ (by omega), b0r a j (by omega)]
    refine s_RN_begin_130 (vl0 := 0) (vc0 := 0) (vs0 := 0) h hw hr hs hs (by omega) (by omega) (by omega) (by rw [i2]; exact c_RN_wordOf hw hr hs (by rw [g1 _ 1 (by omega)]; exact hp) (by omega)) ?_
    rintro _ _ _ ⟨rfl, rfl, rfl⟩
    rw [g1 54 _ (by omega)]
    have e3 : mm_up (mm_up (b0F f s) (56 + 2 * s) 3 (nI t)) (56 + 2 * s) 4 (f 54 (p + 2)) (56 + 2 * s) 3 = nI t := by rw [mm_up_ne _ _ (by omega), mm_up_eq]
    refine s_RN_begin_140 h hw hr hs hs (by rw [e3]; exact mm_inI ht (by omega)) ?_
    rw [e3, ect, mm_up_ne (c := 4 + 12 * t) (k := 1) _ _ (by omega), g1 (4 + 12 * t) 1 (by omega)]
    exact z178 _ hv
  · exact z165 (Or.inl c6) c1 c2 c5
  · exact z165 (Or.inr c7) c1 c2 c5
  · refine z178 _ ?_
    rw [hv, if_neg c1, if_neg c2, if_neg c5, if_neg (fun z => z.elim c6 c7)]
theorem c_RN_askForAll {N F K : Nat} {r : Int32} {g : mm_F} {I : mm_F → Nat → Int32 → Prop} (hw : mm_sh w) (hr : mm_run w n) (hN0 : 0 < N) (hN : N ≤ 39) (hF : F < 2 ^ 31)
    (hb : ∀ k, k ≤ N → itB k f 53 4 = nI N ∧ itB k f n 3 = nI F) (hb2 : ∀ k, k < N → tOK (itB k f) k)
    (hI0 : I (itB N f) (N - 1) 0)
    (hI : ∀ (g : mm_F) (a : Nat) (nw : Int32), I g a nw → a < N ∧ sOK g a ∧ (∃ u, u ≤ 64 ∧ (reF g n a nw).1 134 1 = nI u) ∧ (∃ k, k ≤ 8 ∧ (reF g n a nw).1 53 3 = nI k) ∧ ((reF g n a nw).2 = 0 → 0 < a) ∧ ((reF g n a nw).2 = 0 ∨ (reF g n a nw).2 = 1 ∨ (reF g n a nw).2 = 2 ∨ (reF g n a nw).2 = 3) ∧
      ∀ (g' : mm_F) (a' : Nat) (nw' : Int32), nxM g n (N - 1) a nw = (none, g', a', nw') → I g' a' nw')
    (hK : K ≤ (F + 4) * 78) (hrun : ruM K (itB N f) n (N - 1) (N - 1) 0 = some (r, g)) :
    mm_C E y_RN_askForAll b_RN_askForAll 9 (some .int) 5 0 0 [mm_rf E n] w f (mm_P (some (.int r)) w g) := by
  refine mm_start (by decide) rfl (Nat.le_of_ble_eq_true rfl) fun Γ h he => ?_
  have hM : ((nI F).toInt64 + 4) * 2 * 39 = lN ((F + 4) * 78) := by
    rw [nI_l hF, show (4 : Int64) = lN 4 from rfl, show (2 : Int64) = lN 2 from rfl, show (39 : Int64) = lN 39 from rfl, lN_add, lN_mul, lN_mul, Nat.mul_assoc]
  have loop : ∀ k j, j + k ≤ (F + 4) * 78 → ∀ (g1 : mm_F) (a : Nat) (nw : Int32), I g1 a nw → ruM k g1 n (N - 1) a nw = some (r, g) →
      mm_go E Γ 9 68 [(0, mm_rf E n), (1, .int (nI (N - 1))), (2, .int (nI a)), (3, .int nw), (4, .long (lN ((F + 4) * 78))), (6, .long (lN j))] [] w g1 0 0 := by
    intro k
    induction k with
    | zero => intro j hj g1 a nw _ hr1; cases hr1
    | succ k ih =>
      intro j hj g1 a nw hi hr1
      obtain ⟨ha, hok, ⟨u, hu, eu⟩, ⟨kk, hkk, ek⟩, h0, hd, hnext⟩ := hI g1 a nw hi
      have ea := nI_clamp (n := a) (by omega)
      have hlt : ¬ 0 ≤ lg_cmp (lN j) (lN ((F + 4) * 78)) := by
        rw [lg_cmp_ge, pk_lLE (by omega) (by omega)]
        omega
      have hr2 : (match nxM g1 n (N - 1) a nw with
        | (some r, g, _, _) => some (r, g)
        | (none, g, a', nw) => ruM k g n (N - 1) a' nw) = some (r, g) := hr1
      have hnx : nxM g1 n (N - 1) a nw = (if (reF g1 n a nw).2 = 3 then (some 3, (reF g1 n a nw).1, a, 3)
        else if (reF g1 n a nw).2 = 0 then (none, (reF g1 n a nw).1, a - 1, 0)
        else if a < N - 1 then (none, (reF g1 n a nw).1, a + 1, (reF g1 n a nw).2)
        else if (reF g1 n a nw).2 = 2 then (some 2, (reF g1 n a nw).1, a, 2)
        else if ((reF g1 n a nw).1 134 1).toNatClampNeg + ((reF g1 n a nw).1 53 3).toNatClampNeg ≤ 64 then
          (none, mm_up (mm_up (ocp (reF g1 n a nw).1 (n + 1) ((reF g1 n a nw).1 134 1).toNatClampNeg ((reF g1 n a nw).1 53 3).toNatClampNeg) 134 1 (nI (((reF g1 n a nw).1 134 1).toNatClampNeg + ((reF g1 n a nw).1 53 3).toNatClampNeg))) 134 2 ((reF g1 n a nw).1 134 2 + 1), a, 0)
        else (some 4, (reF g1 n a nw).1, a, 0)) := rfl
      refine s_RN_askForAll_68 (vl0 := 4) (vc0 := 0) (vs0 := 0) h hw hr (fun q => absurd q hlt) (fun _ q => absurd q (nI_pos (by omega))) (fun _ _ => mm_inI (by omega) (by omega)) (by omega) (by omega) (by omega) (fun _ _ => by rw [ea]; exact c_RN_react hw hr (by omega) hok) (fun _ _ => ?_)
      rintro _ _ _ ⟨rfl, rfl, rfl⟩
      generalize reF g1 n a nw = q at hnx eu ek h0 hd ⊢
      rw [eu, ek, nI_clamp (n := u) (by omega), nI_clamp (n := kk) (by omega)] at hnx
      have on : ∀ (d : Int32) (b : Nat), ¬ d = 0 ∧ b = a + 1 ∨ d = 0 ∧ 0 < a ∧ b = a - 1 → I q.1 b d → ruM k q.1 n (N - 1) b d = some (r, g) → mm_go E Γ 9 114 [(0, mm_rf E n), (1, .int (nI (N - 1))), (2, .int (nI a)), (3, .int nw), (4, .long (lN ((F + 4) * 78))), (6, .long (lN j)), (8, .int d)] [] w q.1 0 0 := by
        intro d b hdb hi2 hr3
        refine s_RN_askForAll_114 h hw hr (fun z => ?_) (fun z => ?_)
        · rcases hdb with ⟨-, e⟩ | ⟨e, -⟩
          · refine s_RN_askForAll_125 h hw hr (s_RN_askForAll_169 h hw hr ?_)
            rw [nI_1, lN_1, ← e]
            exact ih (j + 1) (by omega) _ _ _ hi2 hr3
          · exact absurd e z
        · rcases hdb with ⟨e, -⟩ | ⟨-, e0, e⟩
          · exact absurd z e
          · refine s_RN_askForAll_125 h hw hr (s_RN_askForAll_169 h hw hr ?_)
            have e1 : nI a + (-1) = nI b := by
              rw [← Int32.sub_eq_add_neg, e]
              have := nI_pred (a - 1)
              rw [show a - 1 + 1 = a by omega] at this
              exact this
            rw [e1, lN_1]
            exact ih (j + 1) (by omega) _ _ _ hi2 hr3
      refine s_RN_askForAll_94 (vl0 := 0) (vc0 := 0) (vs0 := 0) h he (Nat.le_refl _) (Nat.le_refl _) hw hr (fun c1 c2 => ?_) (by omega) (by omega) (by omega) (fun c1 c2 c3 c4 => by rw [ek]; exact c_OP_add hw hr eu hu hkk) (fun c1 c2 c3 c4 => ?_) (fun c1 c2 c3 c4 => ?_) (fun c1 c2 c3 => ?_) (fun c1 => ?_)
      · rw [if_neg c1, if_pos c2] at hnx
        rw [hnx] at hr2
        rw [c2]
        exact on 0 (a - 1) (Or.inr ⟨rfl, h0 c2, rfl⟩) (hnext _ _ _ hnx) hr2
      · rw [nI_leI (by omega) (by omega)] at c3
        rw [if_neg c1, if_neg c2, if_neg (by omega), if_neg c4] at hnx
        intro r1 w1 f1 hp1
        by_cases c5 : u + kk ≤ 64
        · rw [if_pos c5] at hnx hp1
          rw [hnx] at hr2
          obtain ⟨rfl, rfl, rfl⟩ := hp1
          refine s_RN_askForAll_159 h he (Nat.le_refl _) (Nat.le_refl _) hw hr (fun z => absurd z (by decide)) (fun _ => ?_)
          refine s_RN_askForAll_169 h hw hr ?_
          rw [lN_1]
          exact ih (j + 1) (by omega) _ _ _ (hnext _ _ _ hnx) hr2
        · rw [if_neg c5] at hnx hp1
          rw [hnx] at hr2
          obtain ⟨rfl, rfl, rfl⟩ := hp1
          refine s_RN_askForAll_159 h he (Nat.le_refl _) (Nat.le_refl _) hw hr (fun _ => ?_) (fun z => absurd rfl z)
          cases hr2
          exact mm_Pr
      · rw [nI_leI (by omega) (by omega)] at c3
        rw [if_neg c1, if_neg c2, if_neg (by omega), if_pos c4] at hnx
        rw [hnx] at hr2
        cases hr2
        exact mm_Pr
      · rw [nI_leI (by omega) (by omega)] at c3
        rw [if_neg c1, if_neg c2, if_pos (by omega)] at hnx
        rw [hnx] at hr2
        exact on _ (a + 1) (Or.inl ⟨c2, rfl⟩) (hnext _ _ _ hnx) hr2
      · rw [if_pos c1] at hnx
        rw [hnx] at hr2
        cases hr2
        exact mm_Pr
  have loopb : ∀ d k, k + d = N → mm_go E Γ 9 2 [(0, mm_rf E n), (1, .int (nI k))] [] w (itB k f) 0 0 := by
    intro d
    induction d with
    | zero =>
      intro k hk
      have hk' : k = N := by omega
      subst hk'
      obtain ⟨e1, e2⟩ := hb k (Nat.le_refl _)
      have eN : nI k - 1 = nI (k - 1) := by
        have := nI_pred (k - 1)
        rw [show k - 1 + 1 = k by omega] at this
        exact this
      refine s_RN_askForAll_2 (vl0 := 0) (vc0 := 0) (vs0 := 0) (P0 := fun _ _ _ => False) h hw hr (fun _ => ?_) (fun q => ?_) (by omega) (by omega) (by omega) (fun q => ?_) (fun q => ?_)
      · rw [e1, e2, eN, hM]
        exact loop K 0 (by omega) _ _ _ hI0 hrun
      all_goals (rw [e1] at q; exact absurd (Int32.le_refl _) q)
    | succ d ih =>
      intro k hk
      obtain ⟨e1, e2⟩ := hb k (by omega)
      have ek := nI_clamp (n := k) (by omega)
      refine s_RN_askForAll_2 (vl0 := 3) (vc0 := 0) (vs0 := 0) h hw hr (fun q => ?_) (fun q => mm_inI (by omega) (by omega)) (by omega) (by omega) (by omega) (fun q => by rw [ek]; exact c_RN_begin hw hr (by omega) (hb2 k (by omega))) (fun q => ?_)
      · rw [e1, nI_leI (by omega) (by omega)] at q; omega
      · rintro _ _ _ ⟨rfl, rfl, rfl⟩
        refine s_RN_askForAll_26 h hw hr ?_
        rw [nI_1]
        exact ih (k + 1) (by omega)
  exact s_RN_askForAll_0 h hw hr (loopb N 0 (by omega))
end CRN3
