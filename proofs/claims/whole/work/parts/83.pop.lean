/-! Pure: the calls that may throw, class and reference alike. -/
theorem tb_slot_far {f g : mm_F} {t n : Nat} {key : Int32} (ht : t < 4) (hg : ∀ a, a < 153 → g a = f a) : tb_slot g t n key = tb_slot f t n key := by
  unfold tb_slot tp tc to
  rw [tb_below_congr (f := g) (g := f) (hg _ (by omega)) (hg _ (by omega)), hg _ (by omega), hg _ (by omega)]
theorem Iv.table_0 {f : mm_F} {m R W : Nat} {n cl : Nat → Nat} {x : Int32} (h : Iv f m R W n cl) (hx : ¬ (x < 1 ∨ ¬ x ≤ 4)) (hm : ¬ m = 4) :
    ∀ f1, f1 = mm_up (mm_up (mm_up f (4 + 12 * m) 0 x) (5 + 12 * m) 0 1) 2 1 (nI (m + 1)) → (mtF f1 m x).2 = nI m ∧ (mtF f1 m x).1 136 0 = 0 ∧ IV (mtF f1 m x).1 := by
  intro f1 hf1
  have m4 := h.1.2.1
  obtain ⟨k, k1, k2, k3⟩ : ∃ k : Nat, 1 ≤ k ∧ k ≤ 4 ∧ x = nI k := by
    rw [Int32.lt_iff_toInt_lt, Int32.le_iff_toInt_le] at hx
    have e1 : (1 : Int32).toInt = 1 := rfl
    have e4 : (4 : Int32).toInt = 4 := rfl
    have l : 1 ≤ x.toInt := by omega
    have u : x.toInt ≤ 4 := by omega
    refine ⟨x.toInt.toNat, by omega, by omega, ?_⟩
    apply Int32.toInt_inj.mp
    rw [nI_toInt (by omega)]; omega
  subst k3
  have hmt : mtF f1 m (nI k) = (mm_up (mm_up (mm_up (mm_up f1 136 0 0) 137 m (nI k)) 138 (4 * m) 1) 136 1 (nI (m + 1)), nI m) := by
    unfold mtF
    rw [if_neg hx, if_neg hm]
  obtain ⟨hT, hR⟩ := table_both (k := k) h.1 h.2.1 (by omega) k1 k2
  rw [← hf1] at hT hR
  have r : ∀ a, a ≠ 4 + 12 * m → a ≠ 5 + 12 * m → a ≠ 2 → a ≠ 136 → a ≠ 137 → a ≠ 138 → (mm_up (mm_up (mm_up (mm_up f1 136 0 0) 137 m (nI k)) 138 (4 * m) 1) 136 1 (nI (m + 1))) a = f a := fun a e1 e2 e3 e4 e5 e6 => by
    rw [hf1, mm_up_off _ _ e4, mm_up_off _ _ e6, mm_up_off _ _ e5, mm_up_off _ _ e4, mm_up_off _ _ e3, mm_up_off _ _ e2, mm_up_off _ _ e1]
  have s : ∀ j, ¬ j = 0 → ¬ j = 1 → (mm_up (mm_up (mm_up (mm_up f1 136 0 0) 137 m (nI k)) 138 (4 * m) 1) 136 1 (nI (m + 1))) 136 j = f 136 j := fun j h1 h2 => by
    rw [hf1, mm_up_ne _ _ (by omega), mm_up_ne _ _ (by omega), mm_up_ne _ _ (by omega), mm_up_ne _ _ (by omega), mm_up_ne _ _ (by omega), mm_up_ne _ _ (by omega), mm_up_ne _ _ (by omega)]
  rw [hmt]
  dsimp only
  refine ⟨rfl, ?_, m + 1, R, W, _, _, h.rest hT hR (by rw [r 53 (by omega) (by omega) (by omega) (by omega) (by omega) (by omega)]) (s 8 (by omega) (by omega)) (r 54 (by omega) (by omega) (by omega) (by omega) (by omega) (by omega)) (r 142 (by omega) (by omega) (by omega) (by omega) (by omega) (by omega)) (by rw [r 1 (by omega) (by omega) (by omega) (by omega) (by omega) (by omega)]) (s 29 (by omega) (by omega)) (by rw [r 134 (by omega) (by omega) (by omega) (by omega) (by omega) (by omega)]) (s 30 (by omega) (by omega)) (r 135 (by omega) (by omega) (by omega) (by omega) (by omega) (by omega)) (r 151 (by omega) (by omega) (by omega) (by omega) (by omega) (by omega)) (s 20 (by omega) (by omega)) (fun t c ht hc => ?_)⟩
  · rw [mm_up_ne _ _ (by omega), mm_up_ne _ _ (by omega), mm_up_ne _ _ (by omega), mm_up_eq]
  · by_cases e : t = m
    · subst e
      rw [mm_up_ne _ _ (by omega), mm_up_ne _ _ (by omega), mm_up_ne _ _ (by omega), mm_up_ne _ _ (by omega), hf1, mm_up_ne _ _ (by omega)]
      by_cases c0 : c = 0
      · rw [c0, mm_up_eq]; exact Or.inr rfl
      · rw [mm_up_ne _ _ (by omega), mm_up_ne _ _ (by omega)]; exact h.2.2.2.2.2.2 t c ht hc
    · rw [r _ (by omega) (by omega) (by omega) (by omega) (by omega) (by omega)]; exact h.2.2.2.2.2.2 t c ht hc
theorem Iv.table_1 {f : mm_F} {m : Nat} {x : Int32} (hx : x < 1 ∨ ¬ x ≤ 4) : mtF f m x = (mm_up f 136 0 1, 0) := by unfold mtF; rw [if_pos hx]
theorem Iv.table_2 {f : mm_F} {m : Nat} {x : Int32} (hx : ¬ (x < 1 ∨ ¬ x ≤ 4)) (hm : m = 4) : mtF f m x = (mm_up f 136 0 2, 0) := by unfold mtF; rw [if_neg hx, if_pos hm]
theorem Iv.index_1 {f : mm_F} {m : Nat} {cl : Nat → Nat} {x y : Int32} (hx : ¬ (inb x m = true ∧ inb y (cl x.toNatClampNeg) = true)) : miF f m cl x y = (mm_up f 136 0 1, 0) := by unfold miF; rw [if_neg hx]
theorem Iv.index_0 {f : mm_F} {m R W : Nat} {n cl : Nat → Nat} {x y : Int32} (h : Iv f m R W n cl) (hx : inb x m = true ∧ inb y (cl x.toNatClampNeg) = true) :
    ∀ f1, f1 = mm_up f (5 + 12 * x.toNatClampNeg) y.toNatClampNeg 1 → (miF f1 m cl x y).2 = (if f (5 + 12 * x.toNatClampNeg) y.toNatClampNeg = 0 then 1 else 0) ∧ (miF f1 m cl x y).1 136 0 = 0 ∧ IV (miF f1 m cl x y).1 := by
  intro f1 hf1
  have m4 := h.1.2.1
  obtain ⟨t, t1, t2, t3⟩ := inb_at hx.1 (by omega)
  have c4 := (h.1.2.2.1 t t1).2.2.1
  have hy := hx.2
  rw [t3] at hy
  obtain ⟨d, d1, d2, d3⟩ := inb_at hy (by omega)
  have hmi : miF f1 m cl x y = if f1 138 (4 * t + d) = 0 then (mm_up (mm_up f1 136 0 0) 138 (4 * t + d) 1, 1) else (mm_up f1 136 0 0, 0) := by
    unfold miF
    rw [if_pos hx, t3, d3]
  rw [t3, d3] at hf1 ⊢
  have e138 : f1 138 (4 * t + d) = f (5 + 12 * t) d := by
    rw [hf1, mm_up_ne _ _ (by omega)]; exact (h.2.1.2.2.2.2.2.1 t d (by omega) (by omega)).symm
  by_cases q : f (5 + 12 * t) d = 0
  · rw [if_pos (e138.trans q)] at hmi
    rw [if_pos q, hmi]
    dsimp only
    have r : ∀ a, ¬ a = 5 + 12 * t → ¬ a = 136 → ¬ a = 138 → (mm_up (mm_up f1 136 0 0) 138 (4 * t + d) 1) a = f a := fun a e1 e2 e3 => by
      rw [mm_up_off _ _ e3, mm_up_off _ _ e2, hf1, mm_up_off _ _ e1]
    have s : ∀ j, ¬ j = 0 → (mm_up (mm_up f1 136 0 0) 138 (4 * t + d) 1) 136 j = f 136 j := fun j h1 => by
      rw [mm_up_ne _ _ (by omega), mm_up_ne _ _ (by omega), hf1, mm_up_ne _ _ (by omega)]
    have h5 : ∀ c, (mm_up (mm_up f1 136 0 0) 138 (4 * t + d) 1) (5 + 12 * t) c = if c = d then 1 else f (5 + 12 * t) c := fun c => by
      rw [mm_up_ne _ _ (by omega), mm_up_ne _ _ (by omega), hf1]
      by_cases z : c = d
      · rw [z, mm_up_eq, if_pos rfl]
      · rw [mm_up_ne _ _ (by omega), if_neg z]
    obtain ⟨hT, hR⟩ := index_both (g := mm_up (mm_up f1 136 0 0) 138 (4 * t + d) 1) (t := t) (d := d) h.1 h.2.1 (by omega) (by omega) (fun a ha e => r a e (by omega) (by omega)) h5 (s 1 (by omega)) (s 5 (by omega)) (fun a a1 a2 a3 => r a (by omega) (by omega) a3) (fun j => by
      by_cases z : j = 4 * t + d
      · rw [z, mm_up_eq, if_pos rfl]
      · rw [mm_up_ne _ _ (by omega), mm_up_ne _ _ (by omega), hf1, mm_up_ne _ _ (by omega), if_neg z])
    refine ⟨rfl, ?_, m, R, W, _, _, h.rest hT hR (by rw [r 53 (by omega) (by omega) (by omega)]) (s 8 (by omega)) (r 54 (by omega) (by omega) (by omega)) (r 142 (by omega) (by omega) (by omega)) (by rw [r 1 (by omega) (by omega) (by omega)]) (s 29 (by omega)) (by rw [r 134 (by omega) (by omega) (by omega)]) (s 30 (by omega)) (r 135 (by omega) (by omega) (by omega)) (r 151 (by omega) (by omega) (by omega)) (s 20 (by omega)) (fun u c hu hc => ?_)⟩
    · rw [mm_up_ne _ _ (by omega), mm_up_eq]
    · by_cases e : u = t
      · subst e
        rw [h5]
        by_cases z : c = d
        · rw [if_pos z]; exact Or.inr rfl
        · rw [if_neg z]; exact h.2.2.2.2.2.2 u c hu hc
      · rw [r _ (by omega) (by omega) (by omega)]; exact h.2.2.2.2.2.2 u c hu hc
  · rw [if_neg (fun z => q (e138.symm.trans z))] at hmi
    rw [if_neg q, hmi]
    have e1 : f (5 + 12 * t) d = 1 := by
      rcases h.2.2.2.2.2.2 t d (by omega) (by omega) with z | z
      · exact absurd z q
      · exact z
    have ef : f1 = f := by rw [hf1, ← e1]; exact mm_upf f _ _
    rw [ef]
    exact ⟨rfl, by dsimp only; rw [mm_up_eq], m, R, W, n, cl, h.code 0⟩
theorem Iv.L {f : mm_F} {m R W t : Nat} {n cl : Nat → Nat} (h : Iv f m R W n cl) (ht : t < m) : ∃ L : Nat → List Nat, ∀ c, c < cl t → TC f t c (n t) (L c) := (h.1.2.2.1 t ht).2.2.2.2.2
/-- a row with the key is there for both or for none -/
theorem Iv.find {f : mm_F} {m R W t : Nat} {n cl : Nat → Nat} (h : Iv f m R W n cl) (ht : t < m) (key : Int32) :
    (∃ s r, s < n t ∧ r < R ∧ tb_slot f t (n t) key = nI s ∧ rwF f (nI t) key R = nI r ∧ f 140 r = nI t ∧ f 141 (4 * r) = key ∧ tc f t 0 s = key ∧ ∀ c, c < cl t → f 141 (4 * r + c) = tc f t c s) ∨
    (tb_slot f t (n t) key = -1 ∧ rwF f (nI t) key R = -1 ∧ (∀ s, s < n t → tc f t 0 s ≠ key) ∧ ∀ r, r < R → f 140 r = nI t → f 141 (4 * r) ≠ key) := by
  obtain ⟨t1, t2, t3, t4, t5, LL, t6⟩ := h.1.2.2.1 t ht
  exact (h.2.1.2.2.2.2.2.2.2.1 t ht).find (t6 0 (by omega)) t5 t2 h.2.1.2.2.2.2.2.2.2.2.1 key
theorem Iv.ins_1 {f : mm_F} {m R : Nat} {x : Int32} (hx : ¬ inb x m = true) : minF f m R x = (mm_up f 136 0 1, 0) := by unfold minF; rw [if_neg hx]
theorem Iv.ins_2 {f : mm_F} {m R W t : Nat} {n cl : Nat → Nat} (h : Iv f m R W n cl) (ht : t < m) (hk : ¬ tb_slot f t (n t) (f 52 0) = -1) : minF f m R (nI t) = (mm_up f 136 0 2, 0) := by
  have m4 := h.1.2.1
  rcases h.find ht (f 52 0) with ⟨s, r, z1, z2, z3, z4, _⟩ | ⟨z, _⟩
  · unfold minF
    rw [if_pos (inb_iff.mpr (nI_in ht (by omega))), h.2.1.2.2.2.2.2.2.1 0 (by omega), z4, if_neg (nI_pos (by have := h.2.1.2.2.1; omega))]
  · exact absurd z hk
theorem Iv.ins_3 {f : mm_F} {m R W t : Nat} {n cl : Nat → Nat} (h : Iv f m R W n cl) (ht : t < m) (hk : tb_slot f t (n t) (f 52 0) = -1) (hR : R = 48) : minF f m R (nI t) = (mm_up f 136 0 3, 0) := by
  have m4 := h.1.2.1
  rcases h.find ht (f 52 0) with ⟨s, r, z1, z2, z3, z4, _⟩ | ⟨_, z, _⟩
  · rw [z3] at hk
    exact absurd hk (neg1_ne (by have := (h.1.2.2.1 t ht).2.2.2.2.1; omega))
  · unfold minF
    rw [if_pos (inb_iff.mpr (nI_in ht (by omega))), h.2.1.2.2.2.2.2.2.1 0 (by omega), z, if_pos (by decide), if_pos hR]
theorem Iv.ins_0 {f f1 : mm_F} {m R W t : Nat} {n cl : Nat → Nat} {L : Nat → List Nat} (h : Iv f m R W n cl) (ht : t < m) (hk : tb_slot f t (n t) (f 52 0) = -1) (hR : R < 48) (hL : ∀ c, c < cl t → TC f t c (n t) (L c))
    (h1 : ∀ a, a ≠ 4 + 12 * t → (∀ c, c < cl t → a ≠ 7 + 12 * t + c ∧ a ≠ 12 + 12 * t + c) → f1 a = f a) (h2 : f1 (4 + 12 * t) 1 = nI (n t + 1)) (h3 : ∀ j, j ≠ 1 → f1 (4 + 12 * t) j = f (4 + 12 * t) j)
    (h4 : ∀ c, c < cl t → ∀ s, tc f1 t c s = if s = n t then f 52 c else tc f t c s) (h5 : ∀ c, c < cl t → isO f1 t c (insL (L c) (pio f1 t c (n t) (L c) (n t)) (n t))) :
    (minF f1 m R (nI t)).2 = nI (n t + 1) ∧ (minF f1 m R (nI t)).1 136 0 = 0 ∧ IV (minF f1 m R (nI t)).1 := by
  have m4 := h.1.2.1
  have c4 := (h.1.2.2.1 t ht).2.2.1
  rcases h.find ht (f 52 0) with ⟨s, r, z1, z2, z3, z4, _⟩ | ⟨_, z, z2, z3⟩
  · rw [z3] at hk
    exact absurd hk (neg1_ne (by have := (h.1.2.2.1 t ht).2.2.2.2.1; omega))
  · obtain ⟨hT, hR', ho⟩ := insert_both h.1 h.2.1 ht hR hL z2 h1 h2 h3 h4 h5
    have off : ∀ a, (a < 4 ∨ 52 ≤ a) → f1 a = f a := fun a ha => h1 a (by omega) (fun c hc => by omega)
    have e5 : ∀ u, u < 4 → f1 (5 + 12 * u) = f (5 + 12 * u) := fun u hu => h1 _ (by omega) (fun c hc => by omega)
    have hmi : minF f1 m R (nI t) = (insF f1 R (nI t), nI (n t + 1)) := by
      unfold minF
      have erw : rwF f1 (nI t) (f1 139 0) R = -1 := by
        rw [off 139 (by omega), h.2.1.2.2.2.2.2.2.1 0 (by omega)]
        have : ∀ K, rwF f1 (nI t) (f 52 0) K = rwF f (nI t) (f 52 0) K := fun K => by
          induction K with
          | zero => rfl
          | succ K ih =>
            unfold rwF
            rw [off 140 (by omega), off 141 (by omega), ih]
        rw [this]; exact z
      rw [if_pos (inb_iff.mpr (nI_in ht (by omega))), erw, if_pos (by decide), if_neg (by omega), ho]
    rw [hmi]
    dsimp only
    have r : ∀ a, (a < 4 ∨ 52 ≤ a) → ¬ a = 136 → ¬ a = 140 → ¬ a = 141 → (insF f1 R (nI t)) a = f a := fun a e0 e1 e2 e3 => by
      rw [← off a e0]
      funext j
      unfold insF
      rw [if_neg (by omega), if_neg (by omega), if_neg (by omega), if_neg (by omega)]
    have s : ∀ j, ¬ j = 0 → ¬ j = 5 → (insF f1 R (nI t)) 136 j = f 136 j := fun j e1 e2 => by
      rw [← off 136 (by omega)]
      unfold insF
      rw [if_neg (by omega), if_neg (by omega), if_neg (by omega), if_neg (by omega)]
    refine ⟨rfl, ?_, m, R + 1, W, _, _, h.rest hT hR' (by rw [r 53 (by omega) (by omega) (by omega) (by omega)]) (s 8 (by omega) (by omega)) (r 54 (by omega) (by omega) (by omega) (by omega)) (r 142 (by omega) (by omega) (by omega) (by omega)) (by rw [r 1 (by omega) (by omega) (by omega) (by omega)]) (s 29 (by omega) (by omega)) (by rw [r 134 (by omega) (by omega) (by omega) (by omega)]) (s 30 (by omega) (by omega)) (r 135 (by omega) (by omega) (by omega) (by omega)) (r 151 (by omega) (by omega) (by omega) (by omega)) (s 20 (by omega) (by omega)) (fun u c hu hc => ?_)⟩
    · show (insF f1 R (nI t)) 136 0 = 0
      unfold insF
      rw [if_pos ⟨rfl, rfl⟩]
    · have : (insF f1 R (nI t)) (5 + 12 * u) c = f1 (5 + 12 * u) c := by
        unfold insF
        rw [if_neg (by omega), if_neg (by omega), if_neg (by omega), if_neg (by omega)]
      rw [this, e5 u hu]; exact h.2.2.2.2.2.2 u c hu hc
theorem Iv.del_1 {f : mm_F} {m R : Nat} {x key : Int32} (hx : ¬ inb x m = true) : mdF f m R x key = (mm_up f 136 0 1, 0) := by unfold mdF; rw [if_neg hx]
theorem Iv.del_2 {f : mm_F} {m R W t : Nat} {n cl : Nat → Nat} {key : Int32} (h : Iv f m R W n cl) (ht : t < m) (hk : tb_slot f t (n t) key = -1) : mdF f m R (nI t) key = (mm_up f 136 0 2, 0) := by
  have m4 := h.1.2.1
  rcases h.find ht key with ⟨s, r, z1, z2, z3, z4, _⟩ | ⟨_, z, _⟩
  · rw [z3] at hk
    exact absurd hk (neg1_ne (by have := (h.1.2.2.1 t ht).2.2.2.2.1; omega))
  · unfold mdF
    rw [if_pos (inb_iff.mpr (nI_in ht (by omega))), z, if_pos (by decide)]
theorem Iv.del_0 {f f1 : mm_F} {m R W t s : Nat} {n cl : Nat → Nat} {key : Int32} {L : Nat → List Nat} (h : Iv f m R W n cl) (ht : t < m) (hs : s < n t) (hk : tb_slot f t (n t) key = nI s) (hL : ∀ c, c < cl t → TC f t c (n t) (L c))
    (h1 : ∀ a, a ≠ 4 + 12 * t → (∀ c, c < cl t → a ≠ 7 + 12 * t + c ∧ a ≠ 12 + 12 * t + c) → f1 a = f a) (h2 : f1 (4 + 12 * t) 1 = nI (n t - 1)) (h3 : ∀ j, j ≠ 1 → f1 (4 + 12 * t) j = f (4 + 12 * t) j)
    (h4 : ∀ c, c < cl t → ∀ x, tc f1 t c x = if x = s then tc f t c (n t - 1) else tc f t c x) (h5 : ∀ c, c < cl t → isO f1 t c (rmL (L c) s (n t - 1))) :
    (mdF f1 m R (nI t) key).2 = nI (n t - 1) ∧ (mdF f1 m R (nI t) key).1 136 0 = 0 ∧ IV (mdF f1 m R (nI t) key).1 := by
  have m4 := h.1.2.1
  have c4 := (h.1.2.2.1 t ht).2.2.1
  have n48 := (h.1.2.2.1 t ht).2.2.2.2.1
  have R48 := h.2.1.2.2.1
  rcases h.find ht key with ⟨s', r, z1, z2, z3, z4, z5, z6, z7, z8⟩ | ⟨z, _⟩
  · have es : s' = s := by
      rw [z3] at hk
      exact (nI_eq (by omega) (by omega)).mp hk
    subst es
    obtain ⟨hT, hR', ho⟩ := delete_both h.1 h.2.1 ht hL hs z2 z5 (by rw [z6, z7]) h1 h2 h3 h4 h5
    have off : ∀ a, (a < 4 ∨ 52 ≤ a) → f1 a = f a := fun a ha => h1 a (by omega) (fun c hc => by omega)
    have e5 : ∀ u, u < 4 → f1 (5 + 12 * u) = f (5 + 12 * u) := fun u hu => h1 _ (by omega) (fun c hc => by omega)
    have hmi : mdF f1 m R (nI t) key = (delF f1 R r, nI (n t - 1)) := by
      unfold mdF
      have erw : rwF f1 (nI t) key R = nI r := by
        have : ∀ K, rwF f1 (nI t) key K = rwF f (nI t) key K := fun K => by
          induction K with
          | zero => rfl
          | succ K ih =>
            unfold rwF
            rw [off 140 (by omega), off 141 (by omega), ih]
        rw [this]; exact z4
      rw [if_pos (inb_iff.mpr (nI_in ht (by omega))), erw, if_neg (nI_pos (by omega)), nI_clamp (by omega), ho]
    rw [hmi]
    dsimp only
    have q : ∀ a, (a < 4 ∨ 52 ≤ a) → ¬ a = 136 → ¬ a = 140 → ¬ a = 141 → (delF f1 R r) a = f a := fun a e0 e1 e2 e3 => by
      rw [← off a e0]
      funext j
      unfold delF
      rw [if_neg (by omega), if_neg (by omega), if_neg (by omega), if_neg (by omega)]
    have sj : ∀ j, ¬ j = 0 → ¬ j = 5 → (delF f1 R r) 136 j = f 136 j := fun j e1 e2 => by
      rw [← off 136 (by omega)]
      unfold delF
      rw [if_neg (by omega), if_neg (by omega), if_neg (by omega), if_neg (by omega)]
    refine ⟨rfl, ?_, m, R - 1, W, _, _, h.rest hT hR' (by rw [q 53 (by omega) (by omega) (by omega) (by omega)]) (sj 8 (by omega) (by omega)) (q 54 (by omega) (by omega) (by omega) (by omega)) (q 142 (by omega) (by omega) (by omega) (by omega)) (by rw [q 1 (by omega) (by omega) (by omega) (by omega)]) (sj 29 (by omega) (by omega)) (by rw [q 134 (by omega) (by omega) (by omega) (by omega)]) (sj 30 (by omega) (by omega)) (q 135 (by omega) (by omega) (by omega) (by omega)) (q 151 (by omega) (by omega) (by omega) (by omega)) (sj 20 (by omega) (by omega)) (fun u c hu hc => ?_)⟩
    · show (delF f1 R r) 136 0 = 0
      unfold delF
      rw [if_pos ⟨rfl, rfl⟩]
    · have : (delF f1 R r) (5 + 12 * u) c = f1 (5 + 12 * u) c := by
        unfold delF
        rw [if_neg (by omega), if_neg (by omega), if_neg (by omega), if_neg (by omega)]
      rw [this, e5 u hu]; exact h.2.2.2.2.2.2 u c hu hc
  · rw [z] at hk
    exact absurd hk.symm (neg1_ne (by omega))
theorem Iv.cell_1 {f : mm_F} {m R : Nat} {cl : Nat → Nat} {x key y : Int32} (hx : ¬ (inb x m = true ∧ inb y (cl x.toNatClampNeg) = true)) : mcF f m R cl x key y = (mm_up f 136 0 1, 0) := by unfold mcF; rw [if_neg hx]
theorem Iv.cell_2 {f : mm_F} {m R W t : Nat} {n cl : Nat → Nat} {key y : Int32} (h : Iv f m R W n cl) (ht : t < m) (hy : inb y (cl t) = true) (hk : tb_slot f t (n t) key = -1) : mcF f m R cl (nI t) key y = (mm_up f 136 0 2, 0) := by
  have m4 := h.1.2.1
  rcases h.find ht key with ⟨s, r, z1, z2, z3, z4, _⟩ | ⟨_, z, _⟩
  · rw [z3] at hk
    exact absurd hk (neg1_ne (by have := (h.1.2.2.1 t ht).2.2.2.2.1; omega))
  · unfold mcF
    rw [if_pos ⟨inb_iff.mpr (nI_in ht (by omega)), by rw [nI_clamp (by omega)]; exact hy⟩, z, if_pos (by decide)]
theorem Iv.cell_0 {f : mm_F} {m R W t d s : Nat} {n cl : Nat → Nat} {key : Int32} (h : Iv f m R W n cl) (ht : t < m) (hd : d < cl t) (hk : tb_slot f t (n t) key = nI s) (hs : s < n t) : mcF f m R cl (nI t) key (nI d) = (mm_up f 136 0 0, tc f t d s) := by
  have m4 := h.1.2.1
  have c4 := (h.1.2.2.1 t ht).2.2.1
  have n48 := (h.1.2.2.1 t ht).2.2.2.2.1
  have R48 := h.2.1.2.2.1
  rcases h.find ht key with ⟨s', r, z1, z2, z3, z4, z5, z6, z7, z8⟩ | ⟨z, _⟩
  · have es : s' = s := by
      rw [z3] at hk
      exact (nI_eq (by omega) (by omega)).mp hk
    subst es
    unfold mcF
    rw [if_pos ⟨inb_iff.mpr (nI_in ht (by omega)), by rw [nI_clamp (by omega)]; exact inb_iff.mpr (nI_in hd (by omega))⟩, z4, if_neg (nI_pos (by omega)), nI_clamp (by omega), nI_clamp (by omega), z8 d hd]
  · rw [z] at hk
    exact absurd hk.symm (neg1_ne (by omega))
theorem Iv.key_1 {f : mm_F} {m R : Nat} {x low : Int32} (hx : ¬ inb x m = true) : mkF f m R x low = (mm_up f 136 0 1, 0) := by unfold mkF; rw [if_neg hx]
theorem Iv.key_2 {f : mm_F} {m R W t : Nat} {n cl : Nat → Nat} {low : Int32} (h : Iv f m R W n cl) (ht : t < m) (hk : ¬ tb_below f t 0 (n t) low < n t) : mkF f m R (nI t) low = (mm_up f 136 0 2, 0) := by
  have m4 := h.1.2.1
  obtain ⟨t1, t2, t3, t4, t5, LL, t6⟩ := h.1.2.2.1 t ht
  rcases (h.2.1.2.2.2.2.2.2.2.1 t ht).from (t6 0 (by omega)) t5 h.2.1.2.2.1 t2 low with ⟨z, _⟩ | ⟨_, z⟩
  · exact absurd z hk
  · unfold mkF
    rw [if_pos (inb_iff.mpr (nI_in ht (by omega))), z, if_pos (by decide)]
theorem Iv.key_0 {f : mm_F} {m R W t : Nat} {n cl : Nat → Nat} {low : Int32} (h : Iv f m R W n cl) (ht : t < m) (hk : tb_below f t 0 (n t) low < n t) : mkF f m R (nI t) low = (mm_up f 136 0 0, tp f t 0 (tb_below f t 0 (n t) low)) := by
  have m4 := h.1.2.1
  have R48 := h.2.1.2.2.1
  obtain ⟨t1, t2, t3, t4, t5, LL, t6⟩ := h.1.2.2.1 t ht
  rcases (h.2.1.2.2.2.2.2.2.2.1 t ht).from (t6 0 (by omega)) t5 h.2.1.2.2.1 t2 low with ⟨_, r, z1, z2, z3⟩ | ⟨z, _⟩
  · unfold mkF
    rw [if_pos (inb_iff.mpr (nI_in ht (by omega))), z2, if_neg (nI_pos (by omega)), nI_clamp (by omega), z3]
  · exact absurd hk z
