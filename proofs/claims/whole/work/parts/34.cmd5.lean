/-! Contracts of the reference's run: the leaves. -/
def pA (f : mm_F) (s : Nat) : Nat := (f 144 s).toNatClampNeg
def pw (f : mm_F) (s k : Nat) : Int32 := f 142 (pA f s + k)
def viF (f : mm_F) : mm_F × Int32 := if f 136 17 = f 136 16 then (mm_up (mm_up f 136 18 1) 136 17 (f 136 17), 0) else (mm_up (mm_up f 136 18 0) 136 17 (f 136 17 + 1), 1)
def nsW (f : mm_F) (x : Int32) : Bool := decide (f 143 0 = 1 ∨ ¬ x < f 142 3 ∧ ¬ f 142 4 < x)
def nsL (f : mm_F) (x key : Int32) : Bool := decide (f 136 28 = 0 ∨ f 136 26 < x ∨ x = f 136 26 ∧ ¬ key ≤ f 136 27)
def nsT (f : mm_F) (c : Nat) (b x key : Int32) : Bool := decide (b < 0 ∨ x < f 141 (4 * b.toNatClampNeg + c) ∨ x = f 141 (4 * b.toNatClampNeg + c) ∧ ¬ f 141 (4 * b.toNatClampNeg) ≤ key)
def nsB (f : mm_F) (c : Nat) : Nat → Int32
  | 0 => -1
  | r + 1 => if f 140 r = f 142 1 ∧ nsW f (f 141 (4 * r + c)) = true ∧ nsL f (f 141 (4 * r + c)) (f 141 (4 * r)) = true ∧ nsT f c (nsB f c r) (f 141 (4 * r + c)) (f 141 (4 * r)) = true then nI r else nsB f c r
def nsF (f : mm_F) (c R : Nat) : mm_F × Int32 := if nsB f c R < 0 then (f, nsB f c R) else (mm_up (mm_up (mm_up f 136 26 (f 141 (4 * (nsB f c R).toNatClampNeg + c))) 136 27 (f 141 (4 * (nsB f c R).toNatClampNeg))) 136 28 1, nsB f c R)
theorem nsB_val (f : mm_F) (c : Nat) : ∀ R, nsB f c R = -1 ∨ ∃ r, r < R ∧ nsB f c R = nI r
  | 0 => Or.inl rfl
  | R + 1 => by
    unfold nsB
    split
    · exact Or.inr ⟨R, by omega, rfl⟩
    · rcases nsB_val f c R with h | ⟨r, h1, h2⟩
      · exact Or.inl h
      · exact Or.inr ⟨r, by omega, h2⟩
def ntP (f : mm_F) (s d : Nat) (t wanted : Int32) (r : Nat) : Bool := decide (f 140 r = t ∧ f 141 (4 * r + d) = wanted ∧ (f 147 s = 0 ∨ ¬ f 141 (4 * r) ≤ f 148 s))
def ntB (f : mm_F) (s d : Nat) (t wanted : Int32) : Nat → Int32
  | 0 => -1
  | r + 1 => if ntP f s d t wanted r = true ∧ (ntB f s d t wanted r < 0 ∨ ¬ f 141 (4 * (ntB f s d t wanted r).toNatClampNeg) ≤ f 141 (4 * r)) then nI r else ntB f s d t wanted r
theorem ntB_val (f : mm_F) (s d : Nat) (t wanted : Int32) : ∀ R, ntB f s d t wanted R = -1 ∨ ∃ r, r < R ∧ ntB f s d t wanted R = nI r
  | 0 => Or.inl rfl
  | R + 1 => by
    unfold ntB
    split
    · exact Or.inr ⟨R, by omega, rfl⟩
    · rcases ntB_val f s d t wanted R with h | ⟨r, h1, h2⟩
      · exact Or.inl h
      · exact Or.inr ⟨r, by omega, h2⟩
def ntX (f : mm_F) (s R : Nat) : Int32 := ntB f s (pw f s 1).toNatClampNeg (pw f s 0) (f 150 (8 * s + (pw f s 2).toNatClampNeg)) R
def ntF (f : mm_F) (s R : Nat) : mm_F × Int32 := if ntX f s R < 0 then (f, ntX f s R) else (mm_up (mm_up f 148 s (f 141 (4 * (ntX f s R).toNatClampNeg))) 147 s 1, ntX f s R)
def psF (r x v : Int32) : Bool :=
  if r = 0 then decide (x < v) else if r = 1 then decide (x ≤ v) else if r = 2 then decide (x = v) else if r = 3 then !decide (x = v) else if r = 4 then decide (v ≤ x) else decide (v < x)
def chL (f : mm_F) (s k : Nat) : mm_F := fun a j => if a = 150 ∧ 8 * s ≤ j ∧ j < 8 * s + k then f 146 (j - 8 * s) else f a j
def chR (f : mm_F) (s k : Nat) : mm_F := fun a j => if a = 146 ∧ j < k then f 150 (8 * s + (pw f s (1 + j)).toNatClampNeg) else f a j
def chF (f : mm_F) (s : Nat) : mm_F := mm_up (chR (chL f s 8) s (pw f s 0).toNatClampNeg) 136 20 (pw f s 0)
def hoF (f : mm_F) (s v : Nat) : mm_F := mm_up (mm_up (chL f s v) 149 s 1) 147 s 0
def rnF (f : mm_F) (s : Nat) : mm_F × Int32 :=
  if ¬ f 149 s = 0 ∧ ¬ f 148 s = f 146 (pw f s 0).toNatClampNeg then
    (mm_up (mm_up (mm_up (mm_up (mm_up (mm_up f 146 0 (f 148 s)) 146 1 (f 147 s)) 136 20 2) 147 s 1) 148 s (f 146 (pw f s 0).toNatClampNeg)) 149 s 1, 1)
  else (mm_up (mm_up (mm_up f 147 s (if f 149 s = 0 then 1 else f 147 s + 1)) 148 s (f 146 (pw f s 0).toNatClampNeg)) 149 s 1, 0)
def loL (f : mm_F) (r fr k : Nat) : mm_F := fun a j => if a = 146 ∧ fr ≤ j ∧ j < fr + k then f 141 (4 * r + (j - fr)) else f a j
def loF (f : mm_F) (r fr k : Nat) : mm_F := mm_up (loL f r fr k) 136 20 (nI (fr + k))
def lsF (P : Nat → Bool) (lo : Nat) : Nat → Int32
  | 0 => -1
  | k + 1 => if P (lo + k) = true then nI (lo + k) else lsF P lo k
def wtF (f : mm_F) (b n : Nat) : Int32 := lsF (fun s => decide (f 143 s = 5 ∧ ¬ f 149 s = 0)) b (n - b)
def sfF (f : mm_F) (b n : Nat) : Int32 := lsF (fun s => decide (0 < s ∧ f 143 s = 7 ∧ f 147 s = pw f s 0)) b (n - b)
theorem lsF_val (P : Nat → Bool) (lo : Nat) : ∀ k, lsF P lo k = -1 ∨ ∃ s, lo ≤ s ∧ s < lo + k ∧ P s = true ∧ lsF P lo k = nI s
  | 0 => Or.inl rfl
  | k + 1 => by
    unfold lsF
    split
    · rename_i h; exact Or.inr ⟨lo + k, by omega, by omega, h, rfl⟩
    · rcases lsF_val P lo k with h | ⟨s, h1, h2, h3, h4⟩
      · exact Or.inl h
      · exact Or.inr ⟨s, h1, by omega, h3, h4⟩
section CMD5
variable {E : mm_E} {w : mm_W} {f : mm_F} {s R : Nat}
theorem nI_8 (a : Nat) : 8 * nI a = nI (8 * a) := nI_mul 8 a
theorem c_MD_visit (hw : mm_sh w) : mm_C E y_MD_visit b_MD_visit 1 (some .boolean) 0 0 0 [mm_rf E 136] w f (mm_P (some (.int (viF f).2)) w (viF f).1) := by
  refine mm_start (by decide) rfl (Nat.le_of_ble_eq_true rfl) fun Γ h he => ?_
  have hx : viF f = if f 136 17 = f 136 16 then (mm_up (mm_up f 136 18 1) 136 17 (f 136 17), 0) else (mm_up (mm_up f 136 18 0) 136 17 (f 136 17 + 1), 1) := rfl
  refine s_MD_visit_0 h hw (fun c1 => ?_) (fun c1 => ?_)
  · rw [if_neg c1] at hx
    refine s_MD_visit_17 h hw rfl rfl (fun _ => ?_) (fun q => absurd (mm_up_eq _ _ _ _) q)
    rw [mm_up_ne _ _ (by omega)]
    refine s_MD_visit_41 h hw (fun q => ?_) (fun _ => ?_)
    · rw [mm_up_ne _ _ (by omega), mm_up_eq] at q; exact absurd rfl q
    · exact s_MD_visit_56 h he (Nat.le_refl _) (Nat.le_refl _) hw (by rw [hx]; exact mm_Pr) rfl
  · rw [if_pos c1] at hx
    refine s_MD_visit_17 h hw rfl rfl (fun q => ?_) (fun _ => ?_)
    · rw [mm_up_eq] at q; exact absurd q (by decide)
    rw [mm_up_ne _ _ (by omega)]
    refine s_MD_visit_41 h hw (fun _ => ?_) (fun q => ?_)
    · exact s_MD_visit_56 h he (Nat.le_refl _) (Nat.le_refl _) hw (by rw [hx]; exact mm_Pr) rfl
    · rw [mm_up_ne _ _ (by omega), mm_up_eq] at q; exact absurd q (by decide)
theorem c_MD_nextOfSource {c : Nat} (hw : mm_sh w) (hR : f 136 5 = nI R) (hR2 : R ≤ 48) (hc : c < 4) (h0 : f 143 0 = 2 → f 142 2 = nI c) (h1 : ¬ f 143 0 = 2 → c = 0) : mm_C E y_MD_nextOfSource b_MD_nextOfSource 10 (some .int) 0 0 0 [mm_rf E 136] w f (mm_P (some (.int (nsF f c R).2)) w (nsF f c R).1) := by
  refine mm_start (by decide) rfl (Nat.le_of_ble_eq_true rfl) fun Γ h he => ?_
  have hx : nsF f c R = if nsB f c R < 0 then (f, nsB f c R) else (mm_up (mm_up (mm_up f 136 26 (f 141 (4 * (nsB f c R).toNatClampNeg + c))) 136 27 (f 141 (4 * (nsB f c R).toNatClampNeg))) 136 28 1, nsB f c R) := rfl
  have loop : ∀ d r, r + d = R → mm_go E Γ 10 33 [(0, mm_rf E 136), (1, .int (f 142 1)), (2, .int (nI c)), (3, .int (nsB f c r)), (4, .int (nI r))] [] w f 0 0 := by
    intro d
    induction d with
    | zero =>
      intro r hr
      have hr' : r = R := by omega
      subst hr'
      refine s_MD_nextOfSource_33 h hw (fun _ c2 => ?_) (fun _ c2 => ?_) (fun _ c2 => ?_) (fun _ c2 => ?_) (fun q => ?_) (fun q => ?_) (fun q => ?_) (fun q => ?_) (fun q => ?_) (fun q => ?_)
      · rw [if_pos c2] at hx
        exact s_MD_nextOfSource_274 h he (Nat.le_refl _) (Nat.le_refl _) hw (by rw [hx]; exact mm_Pr)
      · rcases nsB_val f c r with hv | ⟨j, hj, hv⟩
        · rw [hv] at c2; exact absurd (by decide) c2
        · rw [hv, nI_4, nI_add]; exact mm_inI (by omega) (by omega)
      · rcases nsB_val f c r with hv | ⟨j, hj, hv⟩
        · rw [hv] at c2; exact absurd (by decide) c2
        · rw [hv, nI_4]; exact mm_inI (by omega) (by omega)
      · rw [if_neg c2] at hx
        rcases nsB_val f c r with hv | ⟨j, hj, hv⟩
        · rw [hv] at c2; exact absurd (by decide) c2
        · refine s_MD_nextOfSource_274 h he (Nat.le_refl _) (Nat.le_refl _) hw ?_
          rw [hx, hv, nI_clamp (by omega), nI_4, nI_add, nI_clamp (by omega), nI_clamp (by omega), mm_up_ne (c := 141) _ _ (by omega)]
          exact mm_Pr
      all_goals exact absurd (by rw [hR]; exact Int32.le_refl _) q
    | succ d ih =>
      intro r hr
      have e1 : (nI (4 * r + c)).toNatClampNeg = 4 * r + c := nI_clamp (by omega)
      have e2 : (nI (4 * r)).toNatClampNeg = 4 * r := nI_clamp (by omega)
      have e3 : (nI r).toNatClampNeg = r := nI_clamp (by omega)
      have hs : nsB f c (r + 1) = if f 140 r = f 142 1 ∧ nsW f (f 141 (4 * r + c)) = true ∧ nsL f (f 141 (4 * r + c)) (f 141 (4 * r)) = true ∧ nsT f c (nsB f c r) (f 141 (4 * r + c)) (f 141 (4 * r)) = true then nI r else nsB f c r := rfl
      have ih1 := ih (r + 1) (by omega)
      generalize hX : f 141 (4 * r + c) = X at hs
      generalize hK : f 141 (4 * r) = K at hs
      have no : ∀ a b c' : Int32, ¬ (f 140 r = f 142 1 ∧ nsW f X = true ∧ nsL f X K = true ∧ nsT f c (nsB f c r) X K = true) → mm_go E Γ 10 231 [(0, mm_rf E 136), (1, .int (f 142 1)), (2, .int (nI c)), (3, .int (nsB f c r)), (4, .int (nI r)), (5, .int X), (6, .int K), (7, .int a), (8, .int b), (9, .int c')] [] w f 0 0 := by
        intro a b c' q
        rw [if_neg q] at hs
        refine s_MD_nextOfSource_231 h hw (s_MD_nextOfSource_232 h hw ?_)
        rw [nI_1, ← hs]; exact ih1
      have g198 : ∀ b3 : Bool, b3 = nsT f c (nsB f c r) X K → mm_go E Γ 10 198 [(0, mm_rf E 136), (1, .int (f 142 1)), (2, .int (nI c)), (3, .int (nsB f c r)), (4, .int (nI r)), (5, .int X), (6, .int K), (7, .int (bI (nsW f X))), (8, .int (bI (nsL f X K)))] [.int (bI b3)] w f 0 0 := by
        intro b3 hb3
        rw [hb3]
        refine s_MD_nextOfSource_198 h hw (mm_inI (by omega) (by omega)) (fun q => ?_) (fun q1 q => ?_) (fun q1 q2 q => ?_) (fun q1 q2 q3 q => ?_) (fun q1 q2 q3 q => ?_)
        · rw [e3] at q
          exact no _ _ _ fun z => q z.1
        · exact no _ _ _ fun z => by rw [bI_eq0 q] at z; exact absurd z.2.1 (by decide)
        · exact no _ _ _ fun z => by rw [bI_eq0 q] at z; exact absurd z.2.2.1 (by decide)
        · exact no _ _ _ fun z => by rw [bI_eq0 q] at z; exact absurd z.2.2.2 (by decide)
        · rw [e3] at q1
          rw [if_pos ⟨q1, bI_ne0 q2, bI_ne0 q3, bI_ne0 q⟩] at hs
          refine s_MD_nextOfSource_232 h hw ?_
          rw [nI_1, ← hs]; exact ih1
      have g144 : ∀ b2 : Bool, b2 = nsL f X K → mm_go E Γ 10 144 [(0, mm_rf E 136), (1, .int (f 142 1)), (2, .int (nI c)), (3, .int (nsB f c r)), (4, .int (nI r)), (5, .int X), (6, .int K), (7, .int (bI (nsW f X)))] [.int (bI b2)] w f 0 0 := by
        intro b2 hb2
        rw [hb2]
        have hT : nsT f c (nsB f c r) X K = decide (nsB f c r < 0 ∨ X < f 141 (4 * (nsB f c r).toNatClampNeg + c) ∨ X = f 141 (4 * (nsB f c r).toNatClampNeg + c) ∧ ¬ f 141 (4 * (nsB f c r).toNatClampNeg) ≤ K) := rfl
        have yes := g198 true
        have non := g198 false
        rcases nsB_val f c r with hv | ⟨j, hj, hv⟩
        · have c0 : nsB f c r < 0 := by rw [hv]; decide
          refine s_MD_nextOfSource_144 h hw (fun _ => ?_) (fun q => absurd c0 q) (fun q => absurd c0 q) (fun q => absurd c0 q) (fun q => absurd c0 q) (fun q => absurd c0 q) (fun q => absurd c0 q)
          exact s_MD_nextOfSource_193 h hw (yes (by rw [hT, decide_eq_true (Or.inl c0)]))
        · have c0 : ¬ nsB f c r < 0 := by rw [hv]; exact nI_lt0 j (by omega)
          have e4 : 4 * nsB f c r + nI c = nI (4 * (nsB f c r).toNatClampNeg + c) := by rw [hv, nI_clamp (by omega), nI_4, nI_add]
          have e5 : 4 * nsB f c r = nI (4 * (nsB f c r).toNatClampNeg) := by rw [hv, nI_clamp (by omega), nI_4]
          have e6 : (nsB f c r).toNatClampNeg = j := by rw [hv, nI_clamp (by omega)]
          have e7 : (4 * nsB f c r + nI c).toNatClampNeg = 4 * (nsB f c r).toNatClampNeg + c := by rw [e4, nI_clamp (by omega)]
          have e8 : (4 * nsB f c r).toNatClampNeg = 4 * (nsB f c r).toNatClampNeg := by rw [e5, nI_clamp (by omega)]
          refine s_MD_nextOfSource_144 h hw (fun q => absurd q c0) (fun _ => by rw [e4]; exact mm_inI (by omega) (by omega)) (fun _ q => ?_) (fun _ q1 q => ?_) (fun _ q1 q => by rw [e5]; exact mm_inI (by omega) (by omega)) (fun _ q1 q2 q => ?_) (fun _ q1 q2 q => ?_)
          · rw [e7] at q
            exact s_MD_nextOfSource_193 h hw (yes (by rw [hT, decide_eq_true (Or.inr (Or.inl q))]))
          · rw [e7] at q q1
            refine s_MD_nextOfSource_197 h hw (non ?_)
            rw [hT, decide_eq_false]
            rintro (z | z | z)
            · exact c0 z
            · exact q1 z
            · exact q z.1
          · rw [e7] at q1 q2
            rw [e8] at q
            refine s_MD_nextOfSource_197 h hw (non ?_)
            rw [hT, decide_eq_false]
            rintro (z | z | z)
            · exact c0 z
            · exact q1 z
            · exact z.2 q
          · rw [e7] at q1 q2
            rw [e8] at q
            exact s_MD_nextOfSource_193 h hw (yes (by rw [hT, decide_eq_true (Or.inr (Or.inr ⟨q2, q⟩))]))
      have g103 : ∀ b1 : Bool, b1 = nsW f X → mm_go E Γ 10 103 [(0, mm_rf E 136), (1, .int (f 142 1)), (2, .int (nI c)), (3, .int (nsB f c r)), (4, .int (nI r)), (5, .int X), (6, .int K)] [.int (bI b1)] w f 0 0 := by
        intro b1 hb1
        rw [hb1]
        have hL : nsL f X K = decide (f 136 28 = 0 ∨ f 136 26 < X ∨ X = f 136 26 ∧ ¬ K ≤ f 136 27) := rfl
        have yes := g144 true
        have non := g144 false
        refine s_MD_nextOfSource_103 h hw (fun q => ?_) (fun q1 q => ?_) (fun q1 q2 q => ?_) (fun q1 q2 q3 q => ?_) (fun q1 q2 q3 q => ?_)
        · exact s_MD_nextOfSource_139 h hw (yes (by rw [hL, decide_eq_true (Or.inl q)]))
        · exact s_MD_nextOfSource_139 h hw (yes (by rw [hL, decide_eq_true (Or.inr (Or.inl q))]))
        · refine s_MD_nextOfSource_143 h hw (non ?_)
          rw [hL, decide_eq_false]
          rintro (z | z | z)
          · exact q1 z
          · exact q2 z
          · exact q z.1
        · refine s_MD_nextOfSource_143 h hw (non ?_)
          rw [hL, decide_eq_false]
          rintro (z | z | z)
          · exact q1 z
          · exact q2 z
          · exact z.2 q
        · exact s_MD_nextOfSource_139 h hw (yes (by rw [hL, decide_eq_true (Or.inr (Or.inr ⟨q3, q⟩))]))
      have hW : nsW f X = decide (f 143 0 = 1 ∨ ¬ X < f 142 3 ∧ ¬ f 142 4 < X) := rfl
      have c0 : ¬ f 136 5 ≤ nI r := by rw [hR, nI_leI (by omega) (by omega)]; omega
      have i1 : 4 * nI r + nI c = nI (4 * r + c) := by rw [nI_4, nI_add]
      have i2 : 4 * nI r = nI (4 * r) := nI_4 r
      refine s_MD_nextOfSource_33 h hw (fun q => absurd q c0) (fun q => absurd q c0) (fun q => absurd q c0) (fun q => absurd q c0) (fun _ => by rw [i1]; exact mm_inI (by omega) (by omega)) (fun _ => by rw [i2]; exact mm_inI (by omega) (by omega)) (fun _ q => ?_) (fun _ q1 q => ?_) (fun _ q1 q2 q => ?_) (fun _ q1 q2 q => ?_)
      · rw [i1, i2, e1, e2, hX, hK]
        exact s_MD_nextOfSource_98 h hw (g103 true (by rw [hW, decide_eq_true (Or.inl q)]))
      · rw [i1, e1, hX] at q
        rw [i1, i2, e1, e2, hX, hK]
        refine s_MD_nextOfSource_102 h hw (g103 false ?_)
        rw [hW, decide_eq_false]
        rintro (z | z)
        · exact q1 z
        · exact z.1 q
      · rw [i1, e1, hX] at q
        rw [i1, i2, e1, e2, hX, hK]
        refine s_MD_nextOfSource_102 h hw (g103 false ?_)
        rw [hW, decide_eq_false]
        rintro (z | z)
        · exact q1 z
        · exact z.2 q
      · rw [i1, e1, hX] at q q2
        rw [i1, i2, e1, e2, hX, hK]
        exact s_MD_nextOfSource_98 h hw (g103 true (by rw [hW, decide_eq_true (Or.inr ⟨q2, q⟩)]))
  refine s_MD_nextOfSource_0 h hw (fun q => ?_) (fun q => ?_)
  · have := h1 q
    subst this
    exact s_MD_nextOfSource_27 h hw (loop R 0 (by omega))
  · rw [h0 q]
    exact s_MD_nextOfSource_27 h hw (loop R 0 (by omega))
end CMD5
