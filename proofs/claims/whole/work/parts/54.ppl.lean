/-! Pure: the class's look at a plan beside the reference's reading. f: the class's memory, g: the reference's. -/
def kB (f g : mm_F) : Prop := ∃ q : Nat, q ≤ 40 ∧ f 53 2 = nI q ∧ g 136 11 = nI q
def kO (f g : mm_F) (W p v : Nat) : Prop := f 53 2 = -1 ∧ g 136 11 < 0 ∧ f 53 6 = nI p ∧ p ≤ W ∧ f 53 3 = nI v ∧ g 136 15 = nI v ∧ v ≤ 8
/-- what does not change while a plan is looked at -/
def kS (f g : mm_F) (W m : Nat) (cl : Nat → Nat) : Prop := f 53 1 = nI W ∧ W ≤ 40 ∧ (∀ i, i < W → f 54 i = g 142 i) ∧ f 2 1 = nI m ∧ m ≤ 4 ∧ (∀ t, t < m → f (4 + 12 * t) 0 = nI (cl t) ∧ g 137 t = nI (cl t) ∧ cl t ≤ 4) ∧ ∀ t c, t < m → c < cl t → f (5 + 12 * t) c = g 138 (4 * t + c)
theorem kS.of {f f' g g' : mm_F} {W m : Nat} {cl : Nat → Nat} (h : kS f g W m cl) (h1 : nfr f f') (h2 : rfi g g') : kS f' g' W m cl := by
  obtain ⟨a1, a2, a3, a4, a5, a6, a7⟩ := h
  refine ⟨?_, a2, fun i hi => ?_, ?_, a5, fun t ht => ?_, fun t c ht hc => ?_⟩
  · rw [h1 53 1 (by omega)]; exact a1
  · rw [h1 54 i (by omega), h2 142 i (by omega)]; exact a3 i hi
  · rw [h1 2 1 (by omega)]; exact a4
  · rw [h1 _ 0 (by omega), h2 137 t (by omega)]; exact a6 t ht
  · rw [h1 _ c (by omega), h2 138 _ (by omega)]; exact a7 t c ht hc
theorem neg1_ne {q : Nat} (h : q ≤ 1000) : ¬ nI q = -1 := fun e => by
  have := congrArg Int32.toInt e
  rw [nI_toInt (by omega)] at this
  have h6 : (-1 : Int32).toInt = -1 := by decide
  omega
/-- in a fault nothing more is found -/
theorem nx_bad {f : mm_F} {lo hi : Int32} (h : ¬ f 53 2 = -1) : nx f lo hi = (f, -1) := by unfold nx; rw [if_neg h]
theorem dm_bad {g : mm_F} {W p : Nat} {b : Bool} (h : 0 ≤ g 136 11) : dm g W p b = g := by unfold dm; rw [if_pos h]
theorem kB.cb {f g : mm_F} (h : kB f g) : ¬ f 53 2 = -1 := by obtain ⟨q, q1, q2, q3⟩ := h; rw [q2]; exact neg1_ne (by omega)
theorem kB.rb {f g : mm_F} (h : kB f g) : 0 ≤ g 136 11 := by obtain ⟨q, q1, q2, q3⟩ := h; rw [q3]; exact nI_pos' (by omega)
theorem kB.of {f f' g g' : mm_F} (h : kB f g) (h1 : f' 53 2 = f 53 2) (h2 : g' 136 11 = g 136 11) : kB f' g' := by
  unfold kB at h ⊢
  rw [h1, h2]; exact h
theorem nC_bad {f : mm_F} (h : ¬ f 53 2 = -1) : nC f = f := by unfold nC; rw [nx_bad h]
theorem nA_bad {f : mm_F} (h : ¬ f 53 2 = -1) : nA f = f := by unfold nA; rw [nx_bad h]
theorem nXi_bad {f : mm_F} {t : Nat} (h : ¬ f 53 2 = -1) : nXi f t = f := by
  unfold nXi
  rw [nx_bad h, if_neg (fun z => h z.1)]
theorem itC_bad : ∀ (k : Nat) {f : mm_F}, ¬ f 53 2 = -1 → itC k f = f
  | 0, _, _ => rfl
  | k + 1, f, h => by
    show itC k (nC f) = f
    rw [nC_bad h]; exact itC_bad k h
theorem rcl_bad {g : mm_F} {W p : Nat} (h : 0 ≤ g 136 11) : rcl g W p = g := dm_bad h
theorem rcL_bad {W p : Nat} : ∀ (k : Nat) {g : mm_F}, 0 ≤ g 136 11 → rcL W p k g = g
  | 0, _, _ => rfl
  | k + 1, g, h => by
    show rcl (rcL W p k g) W (p + (k + 1)) = g
    rw [rcL_bad k h]; exact rcl_bad h
/-- one word: both take it, or both find the fault at the same place -/
theorem nx_dm {f g : mm_F} {W m p v : Nat} {cl : Nat → Nat} {lo hi : Int32} {b : Bool} (hs : kS f g W m cl) (h : kO f g W p v) (hb : p < W → (b = true ↔ (¬ f 54 p < lo ∧ f 54 p ≤ hi))) :
    (p < W ∧ b = true ∧ nx f lo hi = (mm_up f 53 6 (nI (p + 1)), f 54 p) ∧ dm g W p b = g) ∨ (kB (nx f lo hi).1 (dm g W p b) ∧ (nx f lo hi).2 = -1) := by
  obtain ⟨h1, h2, h3, h4, h5, h6, h7⟩ := h
  obtain ⟨a1, a2, a3, _⟩ := hs
  have ep : (nI p).toNatClampNeg = p := nI_clamp (by omega)
  have n2 : ¬ 0 ≤ g 136 11 := Int32.not_le.mpr h2
  have hx : nx f lo hi = if f 53 2 = -1 then (if f 53 1 ≤ f 53 6 ∨ f 54 (f 53 6).toNatClampNeg < lo ∨ ¬ f 54 (f 53 6).toNatClampNeg ≤ hi then (mm_up f 53 2 (f 53 6), -1) else (mm_up f 53 6 (f 53 6 + 1), f 54 (f 53 6).toNatClampNeg)) else (f, -1) := rfl
  have hy : dm g W p b = if 0 ≤ g 136 11 then g else if W ≤ p then mm_up g 136 11 (nI W) else if b = true then g else mm_up g 136 11 (nI p) := rfl
  rw [if_pos h1, h3, ep, a1, nI_1] at hx
  have le : nI W ≤ nI p ↔ W ≤ p := nI_leI (by omega) (by omega)
  rw [if_neg n2] at hy
  by_cases c1 : W ≤ p
  · rw [if_pos (Or.inl (le.mpr c1))] at hx
    rw [if_pos c1] at hy
    rw [hx, hy]
    have : p = W := by omega
    exact Or.inr ⟨⟨W, a2, by rw [this]; exact mm_up_eq f 53 2 (nI W), mm_up_eq g 136 11 (nI W)⟩, rfl⟩
  · rw [if_neg c1] at hy
    have hb' := hb (by omega)
    by_cases c2 : b = true
    · have q := hb'.mp c2
      rw [if_neg (by
        rintro (z | z | z)
        · exact c1 (le.mp z)
        · exact q.1 z
        · exact z q.2)] at hx
      rw [if_pos c2] at hy
      exact Or.inl ⟨by omega, c2, hx, hy⟩
    · rw [if_pos (by
        by_cases z : f 54 p < lo
        · exact Or.inr (Or.inl z)
        · exact Or.inr (Or.inr fun y => c2 (hb'.mpr ⟨z, y⟩)))] at hx
      rw [if_neg c2] at hy
      rw [hx, hy]
      exact Or.inr ⟨⟨p, by omega, mm_up_eq f 53 2 (nI p), mm_up_eq g 136 11 (nI p)⟩, rfl⟩
theorem kO.next {f g : mm_F} {W p v : Nat} (h : kO f g W p v) (hp : p < W) : kO (mm_up f 53 6 (nI (p + 1))) g W (p + 1) v := by
  obtain ⟨h1, h2, h3, h4, h5, h6, h7⟩ := h
  exact ⟨by rw [mm_up_ne _ _ (by omega)]; exact h1, h2, mm_up_eq _ _ _ _, hp, by rw [mm_up_ne _ _ (by omega)]; exact h5, h6, h7⟩
theorem wd_at {f g : mm_F} {W m p : Nat} {cl : Nat → Nat} (hs : kS f g W m cl) (hp : p < W) : wd g W p = f 54 p := by
  unfold wd
  rw [if_neg (by omega)]; exact (hs.2.2.1 p hp).symm
/-- the outcome of a piece: both go on at the same place with the same width, or both have the same fault -/
def kR (f g : mm_F) (W p v : Nat) : Prop := kO f g W p v ∨ kB f g
/-- a word that names a cell -/
theorem nC_rcl {f g : mm_F} {W m p v : Nat} {cl : Nat → Nat} (hs : kS f g W m cl) (h : kO f g W p v) : (kO (nC f) (rcl g W p) W (p + 1) v ∧ p < W ∧ ∃ c, c < v ∧ f 54 p = nI c) ∨ kB (nC f) (rcl g W p) := by
  have h' := h
  obtain ⟨h1, h2, h3, h4, h5, h6, h7⟩ := h'
  have hb : p < W → (iC g (wd g W p) = true ↔ (¬ f 54 p < 0 ∧ f 54 p ≤ f 53 3 - 1)) := fun hp => by
    rw [wd_at hs hp, h5]
    show decide (¬ f 54 p < 0 ∧ ¬ g 136 15 ≤ f 54 p) = true ↔ _
    rw [decide_eq_true_iff, h6]
    constructor
    · rintro ⟨z1, z2⟩
      refine ⟨z1, ?_⟩
      rw [Int32.le_iff_toInt_le, mI_toInt (by omega)]
      rw [Int32.le_iff_toInt_le, nI_toInt (by omega)] at z2
      omega
    · rintro ⟨z1, z2⟩
      refine ⟨z1, fun z3 => ?_⟩
      rw [Int32.le_iff_toInt_le, mI_toInt (by omega)] at z2
      rw [Int32.le_iff_toInt_le, nI_toInt (by omega)] at z3
      omega
  rcases nx_dm (lo := 0) (hi := f 53 3 - 1) (b := iC g (wd g W p)) hs h hb with ⟨q1, q2, q3, q4⟩ | ⟨q1, q2⟩
  · refine Or.inl ⟨?_, q1, ?_⟩
    · unfold nC rcl
      rw [q3, q4]; exact h.next q1
    · have q5 : ¬ wd g W p < 0 ∧ ¬ g 136 15 ≤ wd g W p := of_decide_eq_true q2
      rw [wd_at hs q1, h6] at q5
      obtain ⟨c, c1, c2⟩ := inb_of ((inb_cmp (x := f 54 p) (n := v) (by omega)).mpr q5) (by omega)
      exact ⟨c, c1, c2⟩
  · exact Or.inr q1
/-- any word -/
theorem nA_dm {f g : mm_F} {W m p v : Nat} {cl : Nat → Nat} (hs : kS f g W m cl) (h : kO f g W p v) : (kO (nA f) (dm g W p true) W (p + 1) v ∧ p < W) ∨ kB (nA f) (dm g W p true) := by
  have hb : p < W → (true = true ↔ (¬ f 54 p < -2147483648 ∧ f 54 p ≤ 2147483647)) := fun hp => by
    refine ⟨fun _ => ⟨?_, ?_⟩, fun _ => rfl⟩
    · rw [Int32.lt_iff_toInt_lt]
      have := (f 54 p).le_toInt
      have h6 : (-2147483648 : Int32).toInt = -2147483648 := by decide
      omega
    · rw [Int32.le_iff_toInt_le]
      have := (f 54 p).toInt_le
      have h6 : (2147483647 : Int32).toInt = 2147483647 := by decide
      omega
  rcases nx_dm (lo := -2147483648) (hi := 2147483647) (b := true) hs h hb with ⟨q1, q2, q3, q4⟩ | ⟨q1, q2⟩
  · refine Or.inl ⟨?_, q1⟩
    unfold nA
    rw [q3, q4]; exact h.next q1
  · exact Or.inr q1
theorem itC_end : ∀ (k : Nat) (f : mm_F), itC (k + 1) f = nC (itC k f)
  | 0, _ => rfl
  | k + 1, f => itC_end k (nC f)
