/-! Pure: what leaves the tables as they are. -/
theorem TT.of {f g : mm_F} {m : Nat} {n cl : Nat → Nat} (h : TT f m n cl) (h1 : ∀ a, a < 52 → (∀ u, u < 4 → a ≠ 5 + 12 * u) → g a = f a) : TT g m n cl := by
  obtain ⟨t1, t2, t3, t4⟩ := h
  refine ⟨?_, t2, fun u hu => ?_, fun u hu hu4 => ?_⟩
  · rw [h1 2 (by omega) (fun u _ => by omega)]; exact t1
  · obtain ⟨d1, d2, d3, d4, d5, LL, d6⟩ := t3 u hu
    rw [h1 (4 + 12 * u) (by omega) (fun v _ => by omega)]
    exact ⟨d1, d2, d3, d4, d5, LL, fun c hc => (d6 c hc).congr (h1 _ (by omega) (fun v _ => by omega)) (h1 _ (by omega) (fun v _ => by omega)) (h1 _ (by omega) (fun v _ => by omega))⟩
  · rw [h1 (4 + 12 * u) (by omega) (fun v _ => by omega)]; exact t4 u hu hu4
theorem RT.of {f g : mm_F} {m R : Nat} {n cl : Nat → Nat} (h : RT f m R n cl) (ht : TT f m n cl) (h1 : ∀ a, a < 52 → (∀ u, u < 4 → a ≠ 5 + 12 * u) → g a = f a) (e1 : g 136 1 = f 136 1) (e5 : g 136 5 = f 136 5) (e7 : g 137 = f 137) (e40 : g 140 = f 140) (e41 : g 141 = f 141) (h6 : ∀ t c, t < 4 → c < 4 → g (5 + 12 * t) c = g 138 (4 * t + c)) (h7 : ∀ c, c < 4 → g 139 c = g 52 c) : RT g m R n cl := by
  obtain ⟨r1, r2, r3, r4, r5, r6, r7, r8, r9, r10⟩ := h
  refine ⟨e1.trans r1, e5.trans r2, r3, r4, fun u hu => by rw [e7]; exact r5 u hu, h6, h7, fun u hu => ?_, fun r r' hr hr' q1 q2 => ?_, fun r hr => ?_⟩
  · have d3 := (ht.2.2.1 u hu).2.2.1
    have m4 := ht.2.1
    exact (r8 u hu).congr (fun c hc => h1 _ (by omega) (fun v _ => by omega)) e40 e41
  · rw [e40] at q1
    rw [e41] at q2
    exact r9 r r' hr hr' q1 q2
  · rw [e40]; exact r10 r hr
/-- what touches neither tables nor rows nor what is staged -/
theorem both_frame {f g : mm_F} {m R : Nat} {n cl : Nat → Nat} (hT : TT f m n cl) (hR : RT f m R n cl) (h1 : ∀ a, a < 53 → g a = f a) (e1 : g 136 1 = f 136 1) (e5 : g 136 5 = f 136 5) (h2 : ∀ a, 137 ≤ a → a ≤ 141 → g a = f a) : TT g m n cl ∧ RT g m R n cl := by
  have hR' := hR
  obtain ⟨_, _, _, _, _, r6, r7, _⟩ := hR'
  refine ⟨hT.of (fun a ha _ => h1 a (by omega)), hR.of hT (fun a ha _ => h1 a (by omega)) e1 e5 (h2 137 (by omega) (by omega)) (h2 140 (by omega) (by omega)) (h2 141 (by omega) (by omega)) (fun t c ht hc => ?_) (fun c hc => ?_)⟩
  · rw [h1 _ (by omega), h2 138 (by omega) (by omega)]; exact r6 t c ht hc
  · rw [h1 52 (by omega), h2 139 (by omega) (by omega)]; exact r7 c hc
theorem index_both {f g : mm_F} {m R t d : Nat} {n cl : Nat → Nat} (hT : TT f m n cl) (hR : RT f m R n cl) (ht : t < 4) (hd : d < 4) (h1 : ∀ a, a < 53 → a ≠ 5 + 12 * t → g a = f a) (h5 : ∀ c, g (5 + 12 * t) c = if c = d then 1 else f (5 + 12 * t) c) (e1 : g 136 1 = f 136 1) (e5 : g 136 5 = f 136 5) (h2 : ∀ a, 137 ≤ a → a ≤ 141 → a ≠ 138 → g a = f a) (h8 : ∀ j, g 138 j = if j = 4 * t + d then 1 else f 138 j) : TT g m n cl ∧ RT g m R n cl := by
  have hR' := hR
  obtain ⟨_, _, _, _, _, r6, r7, _⟩ := hR'
  refine ⟨hT.of (fun a ha q => h1 a (by omega) (q t ht)), hR.of hT (fun a ha q => h1 a (by omega) (q t ht)) e1 e5 (h2 137 (by omega) (by omega) (by omega)) (h2 140 (by omega) (by omega) (by omega)) (h2 141 (by omega) (by omega) (by omega)) (fun u c hu hc => ?_) (fun c hc => ?_)⟩
  · rw [h8]
    by_cases z : u = t
    · subst z
      rw [h5]
      by_cases y : c = d
      · rw [if_pos y, if_pos (by omega)]
      · rw [if_neg y, if_neg (by omega)]; exact r6 u c hu hc
    · rw [if_neg (by omega), h1 _ (by omega) (by omega)]; exact r6 u c hu hc
  · rw [h1 52 (by omega) (by omega), h2 139 (by omega) (by omega) (by omega)]; exact r7 c hc
theorem stage_both {f g : mm_F} {m R c0 : Nat} {x : Int32} {n cl : Nat → Nat} (hT : TT f m n cl) (hR : RT f m R n cl) (h1 : ∀ a, a < 52 → g a = f a) (e1 : g 136 1 = f 136 1) (e5 : g 136 5 = f 136 5) (h2 : ∀ a, 137 ≤ a → a ≤ 141 → a ≠ 139 → g a = f a) (h52 : ∀ c, g 52 c = if c = c0 then x else f 52 c) (h9 : ∀ c, g 139 c = if c = c0 then x else f 139 c) : TT g m n cl ∧ RT g m R n cl := by
  have hR' := hR
  obtain ⟨_, _, _, _, _, r6, r7, _⟩ := hR'
  refine ⟨hT.of (fun a ha _ => h1 a ha), hR.of hT (fun a ha _ => h1 a ha) e1 e5 (h2 137 (by omega) (by omega) (by omega)) (h2 140 (by omega) (by omega) (by omega)) (h2 141 (by omega) (by omega) (by omega)) (fun t c ht hc => ?_) (fun c hc => ?_)⟩
  · rw [h1 _ (by omega), h2 138 (by omega) (by omega) (by omega)]; exact r6 t c ht hc
  · rw [h52, h9]
    by_cases z : c = c0
    · rw [if_pos z, if_pos z]
    · rw [if_neg z, if_neg z]; exact r7 c hc
/-- a plan is looked at with the tables as they are -/
theorem kS_of {f : mm_F} {m R W : Nat} {n cl : Nat → Nat} (hT : TT f m n cl) (hR : RT f m R n cl) (hW : f 53 1 = nI W) (hW2 : W ≤ 40) (hw : ∀ i, i < W → f 54 i = f 142 i) : kS f f W m cl := by
  obtain ⟨t1, t2, t3, t4⟩ := hT
  obtain ⟨r1, r2, r3, r4, r5, r6, r7, r8, r9, r10⟩ := hR
  exact ⟨hW, hW2, hw, t1, t2, fun t ht => ⟨(t3 t ht).1, r5 t ht, (t3 t ht).2.2.1⟩, fun t c ht hc => r6 t c (by omega) (by have := (t3 t ht).2.2.1; omega)⟩
