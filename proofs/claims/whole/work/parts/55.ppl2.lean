/-! Pure: the steps of a plan, class beside reference. -/
/-- the words from p on are right for a step k whose rows come v wide; then the place behind them is p' and the width v' -/
def gst (f : mm_F) (W m : Nat) (cl : Nat → Nat) (k : Int32) (p v p' v' : Nat) : Prop :=
  (k = 3 ∧ p' = p + 3 ∧ v' = v ∧ (∃ c, c < v ∧ f 54 p = nI c) ∧ btw 0 5 (f 54 (p + 1)) = true) ∨
  (k = 4 ∧ ∃ n, 1 ≤ n ∧ n ≤ 8 ∧ f 54 p = nI n ∧ p' = p + n + 1 ∧ v' = n ∧ ∀ i, i < n → ∃ c, c < v ∧ f 54 (p + 1 + i) = nI c) ∨
  (k = 5 ∧ p' = p + 3 ∧ ∃ t d c, t < m ∧ d < cl t ∧ c < v ∧ f 54 p = nI t ∧ f 54 (p + 1) = nI d ∧ f 54 (p + 2) = nI c ∧ v' = v + cl t ∧ v' ≤ 8 ∧ ¬ f (5 + 12 * t) d = 0) ∨
  ((k = 6 ∨ k = 7) ∧ p' = p + 1 ∧ v' = v ∧ ¬ f 54 p < 0) ∨
  (k = 8 ∧ p' = p ∧ v' = 1) ∨
  (k = 9 ∧ p' = p + 1 ∧ v' = 1 ∧ ∃ c, c < v ∧ f 54 p = nI c) ∨
  (k = 10 ∧ p' = p + 1 ∧ v' = 2 ∧ ∃ c, c < v ∧ f 54 p = nI c)
theorem kO.wide {f g : mm_F} {W p v x : Nat} (h : kO f g W p v) (hx : x ≤ 8) : kO (mm_up f 53 3 (nI x)) (mm_up g 136 15 (nI x)) W p x := by
  obtain ⟨h1, h2, h3, h4, h5, h6, h7⟩ := h
  exact ⟨by rw [mm_up_ne _ _ (by omega)]; exact h1, by rw [mm_up_ne _ _ (by omega)]; exact h2, by rw [mm_up_ne _ _ (by omega)]; exact h3, h4, mm_up_eq _ _ _ _, mm_up_eq _ _ _ _, hx⟩
theorem kB.wide {f g : mm_F} {x y : Int32} (h : kB f g) : kB (mm_up f 53 3 x) (mm_up g 136 15 y) := h.of (mm_up_ne _ _ (by omega)) (mm_up_ne _ _ (by omega))
theorem kB.wideL {f g : mm_F} {x : Int32} (h : kB f g) : kB (mm_up f 53 3 x) g := h.of (mm_up_ne _ _ (by omega)) rfl
theorem nfr.w54 {f g : mm_F} (h : nfr f g) : g 54 = f 54 := funext fun j => h 54 j (by omega)
/-- k cells in a row -/
theorem itC_rcL {f g : mm_F} {W m p v : Nat} {cl : Nat → Nat} (hs : kS f g W m cl) (h : kO f g W (p + 1) v) : ∀ k, (kO (itC k f) (rcL W p k g) W (p + 1 + k) v ∧ ∀ i, i < k → ∃ c, c < v ∧ f 54 (p + 1 + i) = nI c) ∨ kB (itC k f) (rcL W p k g)
  | 0 => Or.inl ⟨h, fun i hi => by omega⟩
  | k + 1 => by
    have e2 : rcL W p (k + 1) g = rcl (rcL W p k g) W (p + (k + 1)) := rfl
    rw [itC_end, e2]
    rcases itC_rcL hs h k with ⟨q1, q2⟩ | q
    · rw [show p + (k + 1) = p + 1 + k by omega]
      rcases nC_rcl (hs.of (itC_fr k f) (rcL_fr W p k g)) q1 with ⟨z1, z2, z3⟩ | z
      · refine Or.inl ⟨z1, fun i hi => ?_⟩
        rw [(itC_fr k f).w54] at z3
        by_cases y : i = k
        · rw [y]; exact z3
        · exact q2 i (by omega)
      · exact Or.inr z
    · right
      rw [nC_bad q.cb, rcl_bad q.rb]; exact q
theorem pk_rc {f g : mm_F} {W m p v : Nat} {cl : Nat → Nat} (hs : kS f g W m cl) (h : kO f g W p v) : (∃ p' v', kO (pkF f) (rcF g W p).1 W p' v' ∧ (rcF g W p).2 = p' ∧ gst f W m cl 4 p v p' v') ∨ kB (pkF f) (rcF g W p).1 := by
  have hb : p < W → (btw 1 8 (wd g W p) = true ↔ (¬ f 54 p < 1 ∧ f 54 p ≤ 8)) := fun hp => by
    rw [wd_at hs hp]
    show decide (¬ f 54 p < 1 ∧ ¬ 8 < f 54 p) = true ↔ _
    rw [decide_eq_true_iff, Int32.not_lt (a := 8)]
  have hW := hs.2.1
  have hy : rcF g W p = if (dm g W p (btw 1 8 (wd g W p))) 136 11 < 0 then (mm_up (rcL W p (wd g W p).toNatClampNeg (dm g W p (btw 1 8 (wd g W p)))) 136 15 (wd g W p), p + (wd g W p).toNatClampNeg + 1) else (dm g W p (btw 1 8 (wd g W p)), p) := rfl
  have hx : pkF f = mm_up (itC (nx f 1 8).2.toNatClampNeg (nx f 1 8).1) 53 3 (nx f 1 8).2 := rfl
  rcases nx_dm hs h hb with ⟨q1, q2, q3, q4⟩ | ⟨q1, q2⟩
  · have hd : (dm g W p (btw 1 8 (wd g W p))) 136 11 < 0 := by rw [q4]; exact h.2.1
    obtain ⟨n, n1, n2, n3⟩ := wd_le (by omega) hW hd
    rw [if_pos hd, q4, n3, nI_clamp (by omega)] at hy
    have e54 : f 54 p = nI n := by rw [← wd_at hs q1]; exact n3
    rw [q3, e54] at hx
    have hx' : pkF f = mm_up (itC n (mm_up f 53 6 (nI (p + 1)))) 53 3 (nI n) := by rw [hx]; show mm_up (itC (nI n).toNatClampNeg _) 53 3 (nI n) = _; rw [nI_clamp (by omega)]
    have hs1 : kS (mm_up f 53 6 (nI (p + 1))) g W m cl := hs.of (nfr.up (Or.inr (Or.inr rfl))) (rfi.rf g)
    rw [hx', hy]
    rcases itC_rcL hs1 (h.next q1) n with ⟨z1, z2⟩ | z
    · refine Or.inl ⟨p + n + 1, n, ?_, rfl, Or.inr (Or.inl ⟨rfl, n, n1, n2, e54, rfl, rfl, fun i hi => ?_⟩)⟩
      · have := z1.wide n2
        rw [show p + 1 + n = p + n + 1 by omega] at this
        exact this
      · have := z2 i hi
        rw [mm_up_off _ _ (by omega)] at this
        exact this
    · exact Or.inr z.wide
  · have hd : ¬ (dm g W p (btw 1 8 (wd g W p))) 136 11 < 0 := Int32.not_lt.mpr q1.rb
    rw [if_neg hd] at hy
    rw [hx, hy, itC_bad _ q1.cb]
    exact Or.inr q1.wideL
/-- a word that names a table -/
theorem nx_tab {f g : mm_F} {W m p v : Nat} {cl : Nat → Nat} (hs : kS f g W m cl) : p < W → (inb (wd g W p) m = true ↔ (¬ f 54 p < 0 ∧ f 54 p ≤ f 2 1 - 1)) := fun hp => by
  obtain ⟨_, _, _, a4, a5, _⟩ := id hs
  rw [wd_at hs hp, a4, inb_cmp (by omega)]
  constructor
  · rintro ⟨z1, z2⟩
    refine ⟨z1, ?_⟩
    rw [Int32.le_iff_toInt_le, mI_toInt (by omega)]
    rw [Int32.le_iff_toInt_le, nI_toInt (by omega)] at z2
    omega
  · rintro ⟨z1, z2⟩
    refine ⟨z1, fun z3 => ?_⟩
    rw [Int32.le_iff_toInt_le, mI_toInt (by omega)] at z2
    rw [Int32.le_iff_toInt_le, nI_toInt (by omega)] at z3
    omega
/-- a word that names an indexed column -/
theorem nXi_ix {f g : mm_F} {W m p v t : Nat} {cl : Nat → Nat} (hs : kS f g W m cl) (h : kO f g W p v) (ht : t < m) : (kO (nXi f t) (dm g W p (ixC g (nI t) (wd g W p) (cl t))) W (p + 1) v ∧ p < W ∧ ∃ d, d < cl t ∧ f 54 p = nI d ∧ ¬ f (5 + 12 * t) d = 0) ∨ kB (nXi f t) (dm g W p (ixC g (nI t) (wd g W p) (cl t))) := by
  obtain ⟨_, a2, _, _, a5, a6, a7⟩ := id hs
  obtain ⟨b1, b2, b3⟩ := a6 t ht
  have h' := h
  obtain ⟨h1, h2, h3, h4, h5, h6, h7⟩ := h'
  have hb : p < W → (inb (wd g W p) (cl t) = true ↔ (¬ f 54 p < 0 ∧ f 54 p ≤ f (4 + 12 * t) 0 - 1)) := fun hp => by
    rw [wd_at hs hp, b1, inb_cmp (by omega)]
    constructor
    · rintro ⟨z1, z2⟩
      refine ⟨z1, ?_⟩
      rw [Int32.le_iff_toInt_le, mI_toInt (by omega)]
      rw [Int32.le_iff_toInt_le, nI_toInt (by omega)] at z2
      omega
    · rintro ⟨z1, z2⟩
      refine ⟨z1, fun z3 => ?_⟩
      rw [Int32.le_iff_toInt_le, mI_toInt (by omega)] at z2
      rw [Int32.le_iff_toInt_le, nI_toInt (by omega)] at z3
      omega
  have hX : nXi f t = if (nx f 0 (f (4 + 12 * t) 0 - 1)).1 53 2 = -1 ∧ (nx f 0 (f (4 + 12 * t) 0 - 1)).1 (5 + 12 * t) (nx f 0 (f (4 + 12 * t) 0 - 1)).2.toNatClampNeg = 0 then mm_up (nx f 0 (f (4 + 12 * t) 0 - 1)).1 53 2 ((nx f 0 (f (4 + 12 * t) 0 - 1)).1 53 6 - 1) else (nx f 0 (f (4 + 12 * t) 0 - 1)).1 := rfl
  have hI : ixC g (nI t) (wd g W p) (cl t) = (inb (wd g W p) (cl t) && decide (¬ g 138 (4 * (nI t).toNatClampNeg + (wd g W p).toNatClampNeg) = 0)) := rfl
  rw [nI_clamp (by omega)] at hI
  have n2 : ¬ 0 ≤ g 136 11 := Int32.not_le.mpr h2
  rcases nx_dm hs h hb with ⟨q1, q2, q3, q4⟩ | ⟨q1, q2⟩
  · obtain ⟨ed, d1⟩ := inb_nI q2 (by omega)
    rw [wd_at hs q1] at ed d1 q2
    have e7 := a7 t _ ht d1
    rw [wd_at hs q1] at hI ⊢
    rw [q2, Bool.true_and] at hI
    have hX2 : nXi f t = if mm_up f 53 6 (nI (p + 1)) 53 2 = -1 ∧ mm_up f 53 6 (nI (p + 1)) (5 + 12 * t) (f 54 p).toNatClampNeg = 0 then mm_up (mm_up f 53 6 (nI (p + 1))) 53 2 (mm_up f 53 6 (nI (p + 1)) 53 6 - 1) else mm_up f 53 6 (nI (p + 1)) := by rw [hX, q3]
    rw [mm_up_ne (c := 53) (k := 2) _ _ (by omega), mm_up_ne (c := 5 + 12 * t) _ _ (by omega), mm_up_eq, nI_pred, e7] at hX2
    by_cases z : g 138 (4 * t + (f 54 p).toNatClampNeg) = 0
    · rw [if_pos ⟨h1, z⟩] at hX2
      rw [decide_eq_false (fun y => y z)] at hI
      right
      rw [hX2, hI]
      unfold dm
      rw [if_neg n2, if_neg (by omega), if_neg (by decide)]
      exact ⟨p, by omega, mm_up_eq _ _ _ _, mm_up_eq _ _ _ _⟩
    · rw [if_neg (fun y => z y.2)] at hX2
      rw [decide_eq_true z] at hI
      left
      rw [hX2, hI]
      have e : dm g W p true = g := by
        unfold dm
        rw [if_neg n2, if_neg (by omega), if_pos rfl]
      rw [e]
      exact ⟨h.next q1, q1, _, d1, ed, by rw [e7]; exact z⟩
  · right
    rw [if_neg (fun z => q1.cb z.1)] at hX
    rw [hX]
    by_cases z : inb (wd g W p) (cl t) = true
    · rw [z] at q1
      have : ¬ (W ≤ p) ∨ W ≤ p := by omega
      rcases this with y | y
      · unfold dm at q1
        rw [if_neg n2, if_neg y, if_pos rfl] at q1
        exact absurd q1.rb n2
      · have e : dm g W p (ixC g (nI t) (wd g W p) (cl t)) = dm g W p true := by
          unfold dm
          rw [if_neg n2, if_neg n2, if_pos y, if_pos y]
        rw [e]; exact q1
    · rw [Bool.eq_false_iff.mpr z] at hI q1
      rw [hI]; exact q1
