/-! Pure: what the law keeps: class and reference alike between two calls; the calls that never throw. -/
def Iv (f : mm_F) (m R W : Nat) (n cl : Nat → Nat) : Prop := TT f m n cl ∧ RT f m R n cl ∧ (f 53 1 = nI W ∧ W ≤ 40 ∧ f 136 8 = nI W ∧ ∀ i, i < W → f 54 i = f 142 i) ∧ f 1 4 = f 136 29 ∧ (∃ u, u ≤ 64 ∧ f 134 1 = nI u ∧ f 136 30 = nI u ∧ ∀ j, j < u → f 135 j = f 151 j) ∧ (∃ c, c ≤ 8 ∧ f 136 20 = nI c) ∧ ∀ t c, t < 4 → c < 4 → f (5 + 12 * t) c = 0 ∨ f (5 + 12 * t) c = 1
def IV (f : mm_F) : Prop := ∃ m R W n cl, Iv f m R W n cl
theorem both_frame1 {f g : mm_F} {m R : Nat} {n cl : Nat → Nat} (hT : TT f m n cl) (hR : RT f m R n cl) (h1 : ∀ a, a < 53 → ¬ a = 1 → g a = f a) (e1 : g 136 1 = f 136 1) (e5 : g 136 5 = f 136 5) (h2 : ∀ a, 137 ≤ a → a ≤ 141 → g a = f a) : TT g m n cl ∧ RT g m R n cl := by
  obtain ⟨t1, t2, t3, t4⟩ := hT
  obtain ⟨r1, r2, r3, r4, r5, r6, r7, r8, r9, r10⟩ := hR
  refine ⟨⟨?_, t2, fun u hu => ?_, fun u hu hu4 => ?_⟩, ⟨e1.trans r1, e5.trans r2, r3, r4, fun u hu => ?_, fun t c ht hc => ?_, fun c hc => ?_, fun u hu => ?_, fun r r' hr hr' q1 q2 => ?_, fun r hr => ?_⟩⟩
  · rw [h1 2 (by omega) (by omega)]; exact t1
  · obtain ⟨d1, d2, d3, d4, d5, LL, d6⟩ := t3 u hu
    rw [h1 (4 + 12 * u) (by omega) (by omega)]
    exact ⟨d1, d2, d3, d4, d5, LL, fun c hc => (d6 c hc).congr (h1 _ (by omega) (by omega)) (h1 _ (by omega) (by omega)) (h1 _ (by omega) (by omega))⟩
  · rw [h1 (4 + 12 * u) (by omega) (by omega)]; exact t4 u hu hu4
  · rw [h2 137 (by omega) (by omega)]; exact r5 u hu
  · rw [h1 _ (by omega) (by omega), h2 138 (by omega) (by omega)]; exact r6 t c ht hc
  · rw [h1 52 (by omega) (by omega), h2 139 (by omega) (by omega)]; exact r7 c hc
  · have d3 := (t3 u hu).2.2.1
    exact (r8 u hu).congr (fun c hc => h1 _ (by omega) (by omega)) (h2 140 (by omega) (by omega)) (h2 141 (by omega) (by omega))
  · rw [h2 140 (by omega) (by omega)] at q1
    rw [h2 141 (by omega) (by omega)] at q2
    exact r9 r r' hr hr' q1 q2
  · rw [h2 140 (by omega) (by omega)]; exact r10 r hr
/-- the rest beside tables and rows -/
theorem Iv.rest {f g : mm_F} {m R W m' R' : Nat} {n cl n' cl' : Nat → Nat} (h : Iv f m R W n cl) (hT : TT g m' n' cl') (hR : RT g m' R' n' cl') (e1 : g 53 1 = f 53 1) (e2 : g 136 8 = f 136 8) (e3 : g 54 = f 54) (e4 : g 142 = f 142) (e5 : g 1 4 = f 1 4) (e6 : g 136 29 = f 136 29) (e7 : g 134 1 = f 134 1) (e8 : g 136 30 = f 136 30) (e9 : g 135 = f 135) (e10 : g 151 = f 151) (e11 : g 136 20 = f 136 20) (e12 : ∀ t c, t < 4 → c < 4 → g (5 + 12 * t) c = 0 ∨ g (5 + 12 * t) c = 1) : Iv g m' R' W n' cl' := by
  obtain ⟨_, _, ⟨w1, w2, w3, w4⟩, v, ⟨u, u1, u2, u3, u4⟩, ⟨c, c1, c2⟩, _⟩ := h
  refine ⟨hT, hR, ⟨e1.trans w1, w2, e2.trans w3, fun i hi => by rw [e3, e4]; exact w4 i hi⟩, by rw [e5, e6]; exact v, ⟨u, u1, e7.trans u2, e8.trans u3, fun j hj => by rw [e9, e10]; exact u4 j hj⟩, ⟨c, c1, e11.trans c2⟩, e12⟩
/-- the reference's code is written -/
theorem Iv.code {f : mm_F} {m R W : Nat} {n cl : Nat → Nat} (h : Iv f m R W n cl) (x : Int32) : Iv (mm_up f 136 0 x) m R W n cl := by
  have r : ∀ a, ¬ a = 136 → (mm_up f 136 0 x) a = f a := fun a ha => mm_up_off _ _ ha
  have s : ∀ j, ¬ j = 0 → (mm_up f 136 0 x) 136 j = f 136 j := fun j hj => mm_up_ne _ _ (by omega)
  obtain ⟨hT, hR⟩ := both_frame1 (g := mm_up f 136 0 x) h.1 h.2.1 (fun a ha _ => r a (by omega)) (s 1 (by omega)) (s 5 (by omega)) (fun a h1 h2 => r a (by omega))
  exact h.rest hT hR (by rw [r 53 (by omega)]) (s 8 (by omega)) (r 54 (by omega)) (r 142 (by omega)) (by rw [r 1 (by omega)]) (s 29 (by omega)) (by rw [r 134 (by omega)]) (s 30 (by omega)) (r 135 (by omega)) (r 151 (by omega)) (s 20 (by omega)) (fun t c ht hc => by rw [r _ (by omega)]; exact h.2.2.2.2.2.2 t c ht hc)
theorem Iv.stage {f : mm_F} {m R W : Nat} {n cl : Nat → Nat} (h : Iv f m R W n cl) (x y : Int32) : bI (inb x 4) = (msF (if inb x 4 = true then mm_up f 52 x.toNatClampNeg y else f) x y).2 ∧ Iv (msF (if inb x 4 = true then mm_up f 52 x.toNatClampNeg y else f) x y).1 m R W n cl := by
  unfold msF
  by_cases q : inb x 4 = true
  · rw [if_pos q, if_pos q, q]
    refine ⟨rfl, ?_⟩
    dsimp only
    generalize hk : x.toNatClampNeg = k
    have r : ∀ a, ¬ a = 52 → ¬ a = 136 → ¬ a = 139 → (mm_up (mm_up (mm_up f 52 k y) 136 0 0) 139 k y) a = f a := fun a h1 h2 h3 => by
      rw [mm_up_off _ _ h3, mm_up_off _ _ h2, mm_up_off _ _ h1]
    have s : ∀ j, ¬ j = 0 → (mm_up (mm_up (mm_up f 52 k y) 136 0 0) 139 k y) 136 j = f 136 j := fun j hj => by
      rw [mm_up_ne _ _ (by omega), mm_up_ne _ _ (by omega), mm_up_ne _ _ (by omega)]
    obtain ⟨hT, hR⟩ := stage_both (g := mm_up (mm_up (mm_up f 52 k y) 136 0 0) 139 k y) (c0 := k) (x := y) h.1 h.2.1 (fun a ha => r a (by omega) (by omega) (by omega)) (s 1 (by omega)) (s 5 (by omega)) (fun a h1 h2 h3 => r a (by omega) (by omega) h3) (fun c => by
      rw [mm_up_ne _ _ (by omega), mm_up_ne _ _ (by omega)]
      unfold mm_up
      by_cases z : c = k
      · rw [if_pos ⟨rfl, z⟩, if_pos z]
      · rw [if_neg (fun w => z w.2), if_neg z]) (fun c => by
      by_cases z : c = k
      · rw [z, mm_up_eq, if_pos rfl]
      · rw [mm_up_ne _ _ (by omega), mm_up_ne _ _ (by omega), mm_up_ne _ _ (by omega), if_neg z])
    exact h.rest hT hR (by rw [r 53 (by omega) (by omega) (by omega)]) (s 8 (by omega)) (r 54 (by omega) (by omega) (by omega)) (r 142 (by omega) (by omega) (by omega)) (by rw [r 1 (by omega) (by omega) (by omega)]) (s 29 (by omega)) (by rw [r 134 (by omega) (by omega) (by omega)]) (s 30 (by omega)) (r 135 (by omega) (by omega) (by omega)) (r 151 (by omega) (by omega) (by omega)) (s 20 (by omega)) (fun t c ht hc => by rw [r _ (by omega) (by omega) (by omega)]; exact h.2.2.2.2.2.2 t c ht hc)
  · rw [if_neg q, if_neg q]
    refine ⟨?_, h.code 0⟩
    have : inb x 4 = false := by cases e : inb x 4 with | true => exact absurd e q | false => rfl
    rw [this]; rfl
theorem inb_at {x : Int32} {m : Nat} (h : inb x m = true) (hm : m ≤ 1000) : ∃ t, t < m ∧ x = nI t ∧ x.toNatClampNeg = t := by
  obtain ⟨t, h1, h2⟩ := inb_of h (by omega)
  exact ⟨t, h1, h2, by rw [h2, nI_clamp (by omega)]⟩
theorem Iv.rows {f : mm_F} {m R W : Nat} {n cl : Nat → Nat} (h : Iv f m R W n cl) (x : Int32) : (if inb x m = true then f (4 + 12 * x.toNatClampNeg) 1 else -1) = (if inb x m = true then nI (ofN f x R) else -1) := by
  by_cases q : inb x m = true
  · rw [if_pos q, if_pos q]
    obtain ⟨t, h1, h2, h3⟩ := inb_at q (by have := h.1.2.1; omega)
    rw [h3, h2, (h.2.1.2.2.2.2.2.2.2.1 t h1).2.2]
    exact (h.1.2.2.1 t h1).2.2.2.1
  · rw [if_neg q, if_neg q]
/-- a word is laid: both take it or both don't -/
theorem Iv.word {f : mm_F} {m R W : Nat} {n cl : Nat → Nat} (h : Iv f m R W n cl) (x : Int32) : ∀ f1, f1 = (if W < 40 then mm_up (mm_up f 54 W x) 53 1 (nI (W + 1)) else f) → (W = 40 → Iv (mm_up f1 136 0 0) m R W n cl) ∧ (¬ W = 40 → Iv (mm_up (mm_up (mm_up f1 136 0 0) 142 W x) 136 8 (nI (W + 1))) m R (W + 1) n cl) := by
  intro f1 hf1
  obtain ⟨hT, hR, ⟨w1, w2, w3, w4⟩, v, ⟨u, u1, u2, u3, u4⟩, ⟨c, c1, c2⟩, hB⟩ := id h
  refine ⟨fun q => ?_, fun q => ?_⟩
  · rw [if_neg (by omega)] at hf1
    rw [hf1]; exact h.code 0
  · rw [if_pos (by omega)] at hf1
    subst hf1
    have r : ∀ a, ¬ a = 53 → ¬ a = 54 → ¬ a = 136 → ¬ a = 142 → (mm_up (mm_up (mm_up (mm_up (mm_up f 54 W x) 53 1 (nI (W + 1))) 136 0 0) 142 W x) 136 8 (nI (W + 1))) a = f a := fun a h1 h2 h3 h4 => by
      rw [mm_up_off _ _ h3, mm_up_off _ _ h4, mm_up_off _ _ h3, mm_up_off _ _ h1, mm_up_off _ _ h2]
    have s : ∀ j, ¬ j = 0 → ¬ j = 8 → (mm_up (mm_up (mm_up (mm_up (mm_up f 54 W x) 53 1 (nI (W + 1))) 136 0 0) 142 W x) 136 8 (nI (W + 1))) 136 j = f 136 j := fun j h1 h2 => by
      rw [mm_up_ne _ _ (by omega), mm_up_ne _ _ (by omega), mm_up_ne _ _ (by omega), mm_up_ne _ _ (by omega), mm_up_ne _ _ (by omega)]
    have s8 : (mm_up (mm_up (mm_up (mm_up (mm_up f 54 W x) 53 1 (nI (W + 1))) 136 0 0) 142 W x) 136 8 (nI (W + 1))) 136 8 = nI (W + 1) := mm_up_eq _ _ _ _
    have s1 : (mm_up (mm_up (mm_up (mm_up (mm_up f 54 W x) 53 1 (nI (W + 1))) 136 0 0) 142 W x) 136 8 (nI (W + 1))) 53 1 = nI (W + 1) := by
      rw [mm_up_ne _ _ (by omega), mm_up_ne _ _ (by omega), mm_up_ne _ _ (by omega), mm_up_eq]
    have e54 : ∀ i, (mm_up (mm_up (mm_up (mm_up (mm_up f 54 W x) 53 1 (nI (W + 1))) 136 0 0) 142 W x) 136 8 (nI (W + 1))) 54 i = if i = W then x else f 54 i := fun i => by
      rw [mm_up_ne _ _ (by omega), mm_up_ne _ _ (by omega), mm_up_ne _ _ (by omega), mm_up_ne _ _ (by omega)]
      by_cases z : i = W
      · rw [z, mm_up_eq, if_pos rfl]
      · rw [mm_up_ne _ _ (by omega), if_neg z]
    have e142 : ∀ i, (mm_up (mm_up (mm_up (mm_up (mm_up f 54 W x) 53 1 (nI (W + 1))) 136 0 0) 142 W x) 136 8 (nI (W + 1))) 142 i = if i = W then x else f 142 i := fun i => by
      rw [mm_up_ne _ _ (by omega)]
      by_cases z : i = W
      · rw [z, mm_up_eq, if_pos rfl]
      · rw [mm_up_ne _ _ (by omega), mm_up_ne _ _ (by omega), mm_up_ne _ _ (by omega), mm_up_ne _ _ (by omega), if_neg z]
    generalize mm_up (mm_up (mm_up (mm_up (mm_up f 54 W x) 53 1 (nI (W + 1))) 136 0 0) 142 W x) 136 8 (nI (W + 1)) = g at r s s8 s1 e54 e142
    obtain ⟨hT', hR'⟩ := both_frame1 (g := g) hT hR (fun a ha _ => r a (by omega) (by omega) (by omega) (by omega)) (s 1 (by omega) (by omega)) (s 5 (by omega) (by omega)) (fun a h1 h2 => r a (by omega) (by omega) (by omega) (by omega))
    refine ⟨hT', hR', ⟨s1, by omega, s8, fun i hi => ?_⟩, ?_, ⟨u, u1, ?_, ?_, fun j hj => ?_⟩, ⟨c, c1, ?_⟩, fun t c ht hc => by rw [r _ (by omega) (by omega) (by omega) (by omega)]; exact hB t c ht hc⟩
    · rw [e54, e142]
      by_cases z : i = W
      · rw [if_pos z, if_pos z]
      · rw [if_neg z, if_neg z]; exact w4 i (by omega)
    · rw [r 1 (by omega) (by omega) (by omega) (by omega), s 29 (by omega) (by omega)]; exact v
    · rw [r 134 (by omega) (by omega) (by omega) (by omega)]; exact u2
    · rw [s 30 (by omega) (by omega)]; exact u3
    · rw [r 135 (by omega) (by omega) (by omega) (by omega), r 151 (by omega) (by omega) (by omega) (by omega)]; exact u4 j hj
    · rw [s 20 (by omega) (by omega)]; exact c2
theorem Iv.clear {f : mm_F} {m R W : Nat} {n cl : Nat → Nat} (h : Iv f m R W n cl) : f 53 1 = (mm_up f 53 1 0) 136 8 ∧ Iv (mm_up (mm_up (mm_up f 53 1 0) 136 0 0) 136 8 0) m R 0 n cl := by
  obtain ⟨hT, hR, ⟨w1, w2, w3, w4⟩, v, ⟨u, u1, u2, u3, u4⟩, ⟨c, c1, c2⟩, hB⟩ := id h
  refine ⟨by rw [mm_up_ne _ _ (by omega), w1, w3], ?_⟩
  have r : ∀ a, ¬ a = 53 → ¬ a = 136 → (mm_up (mm_up (mm_up f 53 1 0) 136 0 0) 136 8 0) a = f a := fun a h1 h3 => by
    rw [mm_up_off _ _ h3, mm_up_off _ _ h3, mm_up_off _ _ h1]
  have s : ∀ j, ¬ j = 0 → ¬ j = 8 → (mm_up (mm_up (mm_up f 53 1 0) 136 0 0) 136 8 0) 136 j = f 136 j := fun j h1 h2 => by
    rw [mm_up_ne _ _ (by omega), mm_up_ne _ _ (by omega), mm_up_ne _ _ (by omega)]
  have s8 : (mm_up (mm_up (mm_up f 53 1 0) 136 0 0) 136 8 0) 136 8 = nI 0 := mm_up_eq _ _ _ _
  have s1 : (mm_up (mm_up (mm_up f 53 1 0) 136 0 0) 136 8 0) 53 1 = nI 0 := by
    rw [mm_up_ne _ _ (by omega), mm_up_ne _ _ (by omega), mm_up_eq]; rfl
  generalize mm_up (mm_up (mm_up f 53 1 0) 136 0 0) 136 8 0 = g at r s s8 s1
  obtain ⟨hT', hR'⟩ := both_frame1 (g := g) hT hR (fun a ha _ => r a (by omega) (by omega)) (s 1 (by omega) (by omega)) (s 5 (by omega) (by omega)) (fun a h1 h2 => r a (by omega) (by omega))
  refine ⟨hT', hR', ⟨s1, by omega, s8, fun i hi => by omega⟩, ?_, ⟨u, u1, ?_, ?_, fun j hj => ?_⟩, ⟨c, c1, ?_⟩, fun t c ht hc => by rw [r _ (by omega) (by omega)]; exact hB t c ht hc⟩
  · rw [r 1 (by omega) (by omega), s 29 (by omega) (by omega)]; exact v
  · rw [r 134 (by omega) (by omega)]; exact u2
  · rw [s 30 (by omega) (by omega)]; exact u3
  · rw [r 135 (by omega) (by omega), r 151 (by omega) (by omega)]; exact u4 j hj
  · rw [s 20 (by omega) (by omega)]; exact c2
theorem Iv.Tok {f : mm_F} {m R W : Nat} {n cl : Nat → Nat} (h : Iv f m R W n cl) : Tok f := ⟨m, h.1.2.1, h.1.1, fun t ht => ⟨cl t, (h.1.2.2.1 t ht).2.2.1, (h.1.2.2.1 t ht).1⟩⟩
theorem Iv.Mk {f : mm_F} {m R W : Nat} {n cl : Nat → Nat} (h : Iv f m R W n cl) : Mk f W m cl := ⟨h.2.2.1.2.2.1, h.2.2.1.2.1, h.2.1.1, h.1.2.1, fun t ht => ⟨h.2.1.2.2.2.2.1 t ht, (h.1.2.2.1 t ht).2.2.1⟩⟩
/-- a look at the plan on both sides -/
theorem Iv.look {f g : mm_F} {m R W : Nat} {n cl : Nat → Nat} (h : Iv f m R W n cl) (h1 : pfr f g) : Iv g m R W n cl := by
  have r : ∀ a, ¬ a = 53 → ¬ (56 ≤ a ∧ a < 134) → g a = f a := fun a q1 q2 => funext fun j => h1 a j (by omega) (by omega)
  obtain ⟨hT, hR⟩ := both_frame1 (g := g) h.1 h.2.1 (fun a ha _ => r a (by omega) (by omega)) (by rw [r 136 (by omega) (by omega)]) (by rw [r 136 (by omega) (by omega)]) (fun a q1 q2 => r a (by omega) (by omega))
  exact h.rest hT hR (h1 53 1 (by omega) (by omega)) (by rw [r 136 (by omega) (by omega)]) (r 54 (by omega) (by omega)) (r 142 (by omega) (by omega)) (by rw [r 1 (by omega) (by omega)]) (by rw [r 136 (by omega) (by omega)]) (by rw [r 134 (by omega) (by omega)]) (by rw [r 136 (by omega) (by omega)]) (r 135 (by omega) (by omega)) (r 151 (by omega) (by omega)) (by rw [r 136 (by omega) (by omega)]) (fun t c ht hc => by rw [r _ (by omega) (by omega)]; exact h.2.2.2.2.2.2 t c ht hc)
theorem Iv.read {f g : mm_F} {m R W : Nat} {n cl : Nat → Nat} (h : Iv f m R W n cl) (h1 : rfr f g) : Iv g m R W n cl := by
  have r : ∀ a, ¬ a = 136 → ¬ a = 143 → ¬ a = 144 → ¬ a = 145 → g a = f a := fun a q1 q2 q3 q4 => funext fun j => h1 a j (by omega) q2 q3 q4
  have s : ∀ j, ¬ (j = 10 ∨ j = 11 ∨ j = 15) → g 136 j = f 136 j := fun j q => h1 136 j (by omega) (by omega) (by omega) (by omega)
  obtain ⟨hT, hR⟩ := both_frame1 (g := g) h.1 h.2.1 (fun a ha _ => r a (by omega) (by omega) (by omega) (by omega)) (s 1 (by omega)) (s 5 (by omega)) (fun a q1 q2 => r a (by omega) (by omega) (by omega) (by omega))
  exact h.rest hT hR (by rw [r 53 (by omega) (by omega) (by omega) (by omega)]) (s 8 (by omega)) (r 54 (by omega) (by omega) (by omega) (by omega)) (r 142 (by omega) (by omega) (by omega) (by omega)) (by rw [r 1 (by omega) (by omega) (by omega) (by omega)]) (s 29 (by omega)) (by rw [r 134 (by omega) (by omega) (by omega) (by omega)]) (s 30 (by omega)) (r 135 (by omega) (by omega) (by omega) (by omega)) (r 151 (by omega) (by omega) (by omega) (by omega)) (s 20 (by omega)) (fun t c ht hc => by rw [r _ (by omega) (by omega) (by omega) (by omega)]; exact h.2.2.2.2.2.2 t c ht hc)
/-- a fault, or a right plan: class and reference say alike -/
theorem Iv.fault {f : mm_F} {m R W : Nat} {n cl : Nat → Nat} (h : Iv f m R W n cl) : ((ltF f) 53 2 = if 0 ≤ (faF (ltF f) W m cl) 136 11 then (faF (ltF f) W m cl) 136 11 else -1) ∧ ((if (ltF f) 53 2 = -1 then (ltF f) 53 3 else -1) = if 0 ≤ (faF (ltF f) W m cl) 136 11 then -1 else (faF (ltF f) W m cl) 136 15) ∧ Iv (faF (ltF f) W m cl) m R W n cl := by
  have h2 := h.look (ltF_fr f)
  have h3 : Iv (faF (ltF f) W m cl) m R W n cl := (h2.code 0).read (rpF_fr _)
  have hk : kS f (mm_up (ltF f) 136 0 0) W m cl := by
    obtain ⟨hT, hR, ⟨w1, w2, w3, w4⟩, _⟩ := id h
    obtain ⟨a1, a2, a3, a4, a5, a6, a7⟩ := kS_of hT hR w1 w2 w4
    have e : ∀ a, 137 ≤ a → (mm_up (ltF f) 136 0 0) a = f a := fun a ha => by
      rw [mm_up_off _ _ (by omega)]
      exact funext fun j => ltF_fr f a j (by omega) (by omega)
    exact ⟨a1, a2, fun i hi => by rw [e 142 (by omega)]; exact a3 i hi, a4, a5, fun t ht => by rw [e 137 (by omega)]; exact a6 t ht, fun t c ht hc => by rw [e 138 (by omega)]; exact a7 t c ht hc⟩
  refine ⟨?_, ?_, h3⟩
  · unfold faF
    rcases look_alike hk with z | ⟨k, t, p, N, P, V, _, _, _, _, _, _, ⟨z1, z2, _⟩, _⟩
    · obtain ⟨q, q1, q2, q3⟩ := z
      rw [if_pos (by rw [q3]; exact nI_pos' (by omega)), q2, q3]
    · rw [if_neg (fun y => Int32.not_le.mpr z2 y), z1]
  · unfold faF
    rcases look_alike hk with z | ⟨k, t, p, N, P, V, _, _, _, _, _, _, ⟨z1, z2, z3, z4, z5, z6, z7⟩, _⟩
    · obtain ⟨q, q1, q2, q3⟩ := z
      rw [if_neg (by rw [q2]; exact neg1_ne (by omega)), if_pos (by rw [q3]; exact nI_pos' (by omega))]
    · rw [if_pos z1, if_neg (fun y => Int32.not_le.mpr z2 y), z5, z6]
theorem Iv.out {f : mm_F} {m R W : Nat} {n cl : Nat → Nat} (h : Iv f m R W n cl) : ∃ u, u ≤ 64 ∧ f 134 1 = nI u ∧ f 136 30 = nI u ∧ ∀ x : Int32, (if inb x u = true then f 135 x.toNatClampNeg else 0) = (if inb x u = true then f 151 x.toNatClampNeg else 0) := by
  obtain ⟨_, _, _, _, ⟨u, u1, u2, u3, u4⟩, _⟩ := h
  refine ⟨u, u1, u2, u3, fun x => ?_⟩
  by_cases q : inb x u = true
  · rw [if_pos q, if_pos q]
    obtain ⟨t, h1, h2, h3⟩ := inb_at q (by omega)
    rw [h3]; exact u4 t h1
  · rw [if_neg q, if_neg q]
/-- objects made later are none of it -/
theorem Iv.far {f g : mm_F} {m R W : Nat} {n cl : Nat → Nat} (h : Iv f m R W n cl) (hg : ∀ a, a < 153 → g a = f a) : Iv g m R W n cl := by
  obtain ⟨hT, hR⟩ := both_frame1 (g := g) h.1 h.2.1 (fun a ha _ => hg a (by omega)) (by rw [hg 136 (by omega)]) (by rw [hg 136 (by omega)]) (fun a q1 q2 => hg a (by omega))
  exact h.rest hT hR (by rw [hg 53 (by omega)]) (by rw [hg 136 (by omega)]) (hg 54 (by omega)) (hg 142 (by omega)) (by rw [hg 1 (by omega)]) (by rw [hg 136 (by omega)]) (by rw [hg 134 (by omega)]) (by rw [hg 136 (by omega)]) (hg 135 (by omega)) (hg 151 (by omega)) (by rw [hg 136 (by omega)]) (fun t c ht hc => by rw [hg _ (by omega)]; exact h.2.2.2.2.2.2 t c ht hc)
