/-! Pure: class and reference in the midst of a run: what does not change, and what step i of both has in common. -/
def cx (n N m R W F : Nat) (cl nn P V : Nat → Nat) (t0 : Nat) (L : Nat → Nat → List Nat) (f g : mm_F) : Prop :=
  (153 ≤ n ∧ 1 ≤ N ∧ N ≤ 39 ∧ m ≤ 4 ∧ R ≤ 48 ∧ W ≤ 40 ∧ F < 2 ^ 31) ∧
  (f n 3 = nI F ∧ g 136 16 = nI F ∧ f 53 3 = nI (V N)) ∧
  (∀ i, i < W → f 54 i = g 142 i) ∧
  (∀ x, 2 ≤ x ∧ x < 52 → f x = g x) ∧
  (∀ t, t < m → f (4 + 12 * t) 0 = nI (cl t) ∧ 1 ≤ cl t ∧ cl t ≤ 4 ∧ f (4 + 12 * t) 1 = nI (nn t) ∧ nn t ≤ 48 ∧ g 137 t = nI (cl t) ∧ RW g t (nn t) (cl t) R ∧ ∀ c, c < cl t → TC g t c (nn t) (L t c)) ∧
  (∀ i, 1 ≤ i → i ≤ N → V i ≤ 8 ∧ 1 ≤ V i ∧ P i ≤ W) ∧
  (t0 < m ∧ f 56 0 = g 143 0 ∧ (g 143 0 = 1 ∨ g 143 0 = 2) ∧ f 56 1 = nI 0 ∧ f 56 2 = nI 0 ∧ V 1 = cl t0 ∧ g 142 1 = nI t0) ∧
  (∀ i, 1 ≤ i → i < N → f (56 + 2 * i) 0 = g 143 i ∧ f (56 + 2 * i) 1 = nI (P i) ∧ g 144 i = nI (P i + 1) ∧ f (56 + 2 * i) 2 = nI (V i) ∧ g 145 i = nI (V i) ∧ gst f W m cl (g 143 i) (P i + 1) (V i) (P (i + 1)) (V (i + 1)))
def sr (m : Nat) (cl nn P V : Nat → Nat) (t0 : Nat) (L : Nat → Nat → List Nat) (f g : mm_F) (i : Nat) : Prop :=
  (i = 0 → ∃ c x low, c < cl t0 ∧ f 56 3 = nI t0 ∧ f 56 4 = nI c ∧ f 56 5 = nI x ∧ x ≤ nn t0 ∧ scF g = c ∧ (∀ z, nsW g z = true ↔ (¬ z < low ∧ z ≤ f 56 6)) ∧ sX g t0 c x low (L t0 c)) ∧
  (g 143 i = 5 → ∃ t d c x, t < m ∧ d < cl t ∧ c < V i ∧ f 54 (P i + 1) = nI t ∧ f 54 (P i + 2) = nI d ∧ f 54 (P i + 3) = nI c ∧ V (i + 1) = V i + cl t ∧ f (56 + 2 * i) 3 = nI t ∧ f (56 + 2 * i) 4 = nI d ∧ f (56 + 2 * i) 5 = nI x ∧ x ≤ nn t ∧ (g 149 i = 0 → ∀ h : x < (L t d).length, ¬ tc g t d (L t d)[x] ≤ f (56 + 2 * i) 6) ∧ (¬ g 149 i = 0 → jX g i t d (nn t) x (g 150 (8 * i + c)) (L t d) ∧ f (56 + 2 * i) 6 = g 150 (8 * i + c) ∧ ∀ j, j < V i → f (57 + 2 * i) j = g 150 (8 * i + j))) ∧
  (g 143 i = 6 ∨ g 143 i = 7 → ∃ w q, f 54 (P i + 1) = nI w ∧ w < 2 ^ 31 ∧ q ≤ w ∧ g 147 i = nI q ∧ f (56 + 2 * i) 7 = nI (w - q)) ∧
  (g 143 i = 8 ∨ g 143 i = 9 → f (56 + 2 * i) 7 = g 147 i) ∧
  (g 143 i = 10 → f (56 + 2 * i) 7 = g 147 i ∧ (f (56 + 2 * i) 7 = 0 ↔ g 149 i = 0) ∧ (¬ g 149 i = 0 → f (57 + 2 * i) 0 = g 148 i))
def cfr (f f1 : mm_F) (n : Nat) : Prop := (∀ x, x ≤ 55 → f1 x = f x) ∧ (∀ i j, i < 39 → j < 5 → f1 (56 + 2 * i) j = f (56 + 2 * i) j) ∧ f1 n 3 = f n 3
def dgr (g g1 : mm_F) : Prop := (∀ x, x < 52 → g1 x = g x) ∧ (∀ x, 137 ≤ x → x ≤ 145 → g1 x = g x) ∧ g1 136 16 = g 136 16
theorem gst.congr {f f1 : mm_F} {W m : Nat} {cl : Nat → Nat} {k : Int32} {p v p' v' : Nat} (hm : m ≤ 4) (h54 : f1 54 = f 54) (h5 : ∀ t, t < 4 → f1 (5 + 12 * t) = f (5 + 12 * t)) (h : gst f W m cl k p v p' v') : gst f1 W m cl k p v p' v' := by
  unfold gst at h ⊢
  rw [h54]
  rcases h with z | z | ⟨z1, z2, t, d, c, z3, z4, z5, z6, z7, z8, z9, z10, z11⟩ | z | z | z | z
  · exact Or.inl z
  · exact Or.inr (Or.inl z)
  · refine Or.inr (Or.inr (Or.inl ⟨z1, z2, t, d, c, z3, z4, z5, z6, z7, z8, z9, z10, ?_⟩))
    rw [h5 t (by omega)]; exact z11
  · exact Or.inr (Or.inr (Or.inr (Or.inl z)))
  · exact Or.inr (Or.inr (Or.inr (Or.inr (Or.inl z))))
  · exact Or.inr (Or.inr (Or.inr (Or.inr (Or.inr (Or.inl z)))))
  · exact Or.inr (Or.inr (Or.inr (Or.inr (Or.inr (Or.inr z)))))
theorem cx.of {n N m R W F t0 : Nat} {cl nn P V : Nat → Nat} {L : Nat → Nat → List Nat} {f f1 g g1 : mm_F} (h : cx n N m R W F cl nn P V t0 L f g) (hf : cfr f f1 n) (hg : dgr g g1) : cx n N m R W F cl nn P V t0 L f1 g1 := by
  obtain ⟨⟨a1, a2, a3, a4, a5, a6, a7⟩, ⟨b1, b2, b3⟩, c1, d1, e1, v1, ⟨s1, s2, s3, s4, s5, s6, s7⟩, k1⟩ := h
  obtain ⟨f1', f2, f3⟩ := hf
  obtain ⟨g1', g2, g3⟩ := hg
  refine ⟨⟨a1, a2, a3, a4, a5, a6, a7⟩, ⟨?_, ?_, ?_⟩, ?_, ?_, ?_, v1, ⟨s1, ?_, ?_, ?_, ?_, s6, ?_⟩, ?_⟩
  · rw [f3]; exact b1
  · rw [g3]; exact b2
  · rw [f1' 53 (by omega)]; exact b3
  · intro i hi; rw [f1' 54 (by omega), g2 142 (by omega) (by omega)]; exact c1 i hi
  · intro x hx; rw [f1' x (by omega), g1' x hx.2]; exact d1 x hx
  · intro t ht
    obtain ⟨t1, t2, t3, t4, t5, t6, t7, t8⟩ := e1 t ht
    refine ⟨by rw [f1' _ (by omega)]; exact t1, t2, t3, by rw [f1' _ (by omega)]; exact t4, t5, by rw [g2 137 (by omega) (by omega)]; exact t6, t7.congr (fun c hc => g1' _ (by omega)) (g2 140 (by omega) (by omega)) (g2 141 (by omega) (by omega)), fun c hc => (t8 c hc).congr (g1' _ (by omega)) (g1' _ (by omega)) (g1' _ (by omega))⟩
  · rw [show (56 : Nat) = 56 + 2 * 0 from rfl, f2 0 0 (by omega) (by omega), g2 143 (by omega) (by omega)]; exact s2
  · rw [g2 143 (by omega) (by omega)]; exact s3
  · rw [show (56 : Nat) = 56 + 2 * 0 from rfl, f2 0 1 (by omega) (by omega)]; exact s4
  · rw [show (56 : Nat) = 56 + 2 * 0 from rfl, f2 0 2 (by omega) (by omega)]; exact s5
  · rw [g2 142 (by omega) (by omega)]; exact s7
  · intro i i1 i2
    rw [f2 i 0 (by omega) (by omega), f2 i 1 (by omega) (by omega), f2 i 2 (by omega) (by omega), g2 143 (by omega) (by omega), g2 144 (by omega) (by omega), g2 145 (by omega) (by omega)]
    obtain ⟨k2, k3, k4, k5, k6, k7⟩ := k1 i i1 i2
    exact ⟨k2, k3, k4, k5, k6, k7.congr a4 (f1' 54 (by omega)) (fun t ht => f1' _ (by omega))⟩
theorem jX_congr {g g1 : mm_F} {s t d n x : Nat} {Y : Int32} {L : List Nat} (h1 : g1 (7 + 12 * t + d) = g (7 + 12 * t + d)) (h2 : g1 (7 + 12 * t + 0) = g (7 + 12 * t + 0)) (h3 : g1 147 s = g 147 s) (h4 : g1 148 s = g 148 s) (h : jX g s t d n x Y L) : jX g1 s t d n x Y L := by
  unfold jX tc at h ⊢
  rw [h1, h2, h3, h4]; exact h
theorem sX_congr {g g1 : mm_F} {t c x : Nat} {low : Int32} {L : List Nat} (h1 : g1 (7 + 12 * t + c) = g (7 + 12 * t + c)) (h2 : g1 (7 + 12 * t + 0) = g (7 + 12 * t + 0)) (h3 : g1 136 26 = g 136 26) (h4 : g1 136 27 = g 136 27) (h5 : g1 136 28 = g 136 28) (h : sX g t c x low L) : sX g1 t c x low L := by
  unfold sX nsL tc at h ⊢
  rw [h1, h2, h3, h4, h5]; exact h
/-- what a step of the reference writes, beside the row -/
def gfr (g g1 : mm_F) (a : Nat) : Prop := ∀ x j, ¬ x = 146 → ¬ (x = 136 ∧ (j = 17 ∨ j = 20 ∨ (a = 0 ∧ 26 ≤ j ∧ j ≤ 28))) → ¬ ((x = 147 ∨ x = 148 ∨ x = 149) ∧ j = a) → ¬ (x = 150 ∧ 8 * a ≤ j ∧ j < 8 * a + 8) → g1 x j = g x j
theorem gfr.rf (g : mm_F) (a : Nat) : gfr g g a := fun _ _ _ _ _ _ => rfl
theorem gfr.tr {g h k : mm_F} {a : Nat} (h1 : gfr g h a) (h2 : gfr h k a) : gfr g k a := fun x j q1 q2 q3 q4 => (h2 x j q1 q2 q3 q4).trans (h1 x j q1 q2 q3 q4)
theorem gfr.up {g : mm_F} {a x j : Nat} {y : Int32} (h : x = 146 ∨ (x = 136 ∧ (j = 17 ∨ j = 20 ∨ (a = 0 ∧ 26 ≤ j ∧ j ≤ 28))) ∨ ((x = 147 ∨ x = 148 ∨ x = 149) ∧ j = a) ∨ (x = 150 ∧ 8 * a ≤ j ∧ j < 8 * a + 8)) : gfr g (mm_up g x j y) a := fun b k q1 q2 q3 q4 => mm_up_ne _ _ (fun e => by obtain ⟨rfl, rfl⟩ := e; omega)
theorem gfr.dgr {g g1 : mm_F} {a : Nat} (h : gfr g g1 a) : dgr g g1 :=
  ⟨fun x hx => funext fun j => h x j (by omega) (by omega) (by omega) (by omega), fun x h1 h2 => funext fun j => h x j (by omega) (by omega) (by omega) (by omega), h 136 16 (by omega) (by omega) (by omega) (by omega)⟩
theorem vfr.cfr {f f1 : mm_F} {n a : Nat} (h : vfr f f1 n a) (hn : 153 ≤ n) (ha : a < 39) : cfr f f1 n :=
  ⟨fun x hx => funext fun j => h x j (by omega) (by omega) (by omega) (by omega), fun i j h1 h2 => h _ j (by omega) (by omega) (by omega) (by omega), h n 3 (by omega) (by omega) (by omega) (by omega)⟩
theorem sr.of {m t0 : Nat} {cl nn P V : Nat → Nat} {L : Nat → Nat → List Nat} {f f1 g g1 : mm_F} {i : Nat} (hm : m ≤ 4) (h0 : t0 < m) (hc : ∀ t, t < m → cl t ≤ 4) (hV : V i ≤ 8 ∨ i = 0 ∧ ¬ g 143 0 = 5) (h : sr m cl nn P V t0 L f g i) (h54 : f1 54 = f 54) (he : ∀ j, f1 (56 + 2 * i) j = f (56 + 2 * i) j) (hk : ∀ j, f1 (57 + 2 * i) j = f (57 + 2 * i) j) (hT : ∀ x, x < 52 → g1 x = g x) (e142 : g1 142 = g 142) (e143 : g1 143 = g 143) (e147 : g1 147 i = g 147 i) (e148 : g1 148 i = g 148 i) (e149 : g1 149 i = g 149 i) (e150 : ∀ j, j < 8 → g1 150 (8 * i + j) = g 150 (8 * i + j)) (e26 : i = 0 → g1 136 26 = g 136 26 ∧ g1 136 27 = g 136 27 ∧ g1 136 28 = g 136 28) : sr m cl nn P V t0 L f1 g1 i := by
  obtain ⟨k0, k5, k6, k8, k10⟩ := h
  unfold sr
  rw [h54, e143, e147, e148, e149]
  refine ⟨fun z => ?_, fun z => ?_, fun z => ?_, fun z => ?_, fun z => ?_⟩
  · obtain ⟨c, x, low, b1, b2, b3, b4, b5, b6, b7, b8⟩ := k0 z
    obtain ⟨o1, o2, o3⟩ := e26 z
    have e := he
    rw [z] at e
    have hc0 := hc t0 h0
    refine ⟨c, x, low, b1, (e 3).trans b2, (e 4).trans b3, (e 5).trans b4, b5, ?_, fun y => ?_, sX_congr (hT _ (by omega)) (hT _ (by omega)) o1 o2 o3 b8⟩
    · unfold scF at b6 ⊢; rw [e142, e143]; exact b6
    · have := b7 y
      unfold nsW at this ⊢
      rw [e142, e143, show f1 56 6 = f 56 6 from e 6]; exact this
  · obtain ⟨t, d, c, x, b1, b2, b3, b4, b5, b6, b7, b8, b9, b10, b11, b12, b13⟩ := k5 z
    have hct := hc t b1
    rw [he 3, he 4, he 5, he 6]
    refine ⟨t, d, c, x, b1, b2, b3, b4, b5, b6, b7, b8, b9, b10, b11, fun y hx => ?_, fun y => ?_⟩
    · have := b12 y hx
      unfold tc at this ⊢
      rw [hT _ (by omega)]; exact this
    · have hV8 : V i ≤ 8 := by
        rcases hV with q | ⟨q1, q2⟩
        · exact q
        · rw [q1] at z; exact absurd z q2
      obtain ⟨y1, y2, y3⟩ := b13 y
      rw [e150 c (by omega)]
      exact ⟨jX_congr (hT _ (by omega)) (hT _ (by omega)) e147 e148 y1, y2, fun j hj => by rw [hk j, e150 j (by omega)]; exact y3 j hj⟩
  · rw [he 7]; exact k6 z
  · rw [he 7]; exact k8 z
  · rw [he 7, hk 0]; exact k10 z
