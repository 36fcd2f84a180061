/-! Pure: the class's steps begin. -/
theorem beF_fr (f : mm_F) (s : Nat) : ∀ a j, ¬ (a = 56 + 2 * s ∧ 3 ≤ j) → (beF f s) a j = f a j := by
  intro a j q
  have b0 : (b0F f s) a j = f a j := by
    unfold b0F
    rw [mm_up_ne _ _ (by omega), mm_up_ne _ _ (by omega)]
  unfold beF bwF
  split
  · rw [mm_up_ne _ _ (by omega), mm_up_ne _ _ (by omega), mm_up_ne _ _ (by omega), mm_up_ne _ _ (by omega)]; exact b0
  split
  · rw [mm_up_ne _ _ (by omega), mm_up_ne _ _ (by omega), mm_up_ne _ _ (by omega), mm_up_ne _ _ (by omega)]; exact b0
  split
  · rw [mm_up_ne _ _ (by omega), mm_up_ne _ _ (by omega), mm_up_ne _ _ (by omega)]; exact b0
  split
  · rw [mm_up_ne _ _ (by omega)]; exact b0
  · exact b0
theorem itB_fr (f : mm_F) : ∀ (k a j : Nat), ¬ (56 ≤ a ∧ a < 56 + 2 * k ∧ 3 ≤ j) → (itB k f) a j = f a j
  | 0, _, _, _ => rfl
  | k + 1, a, j, q => by
    show (beF (itB k f) k) a j = f a j
    rw [beF_fr _ _ a j (by omega)]
    exact itB_fr f k a j (by omega)
theorem itB_row (f : mm_F) (k : Nat) {a : Nat} (h : ¬ (56 ≤ a ∧ a < 56 + 2 * k)) : (itB k f) a = f a := funext fun j => itB_fr f k a j (by omega)
/-- the class's steps as the look has left them: kinds, places P, widths V -/
def cL (f : mm_F) (W m : Nat) (cl P V : Nat → Nat) (N : Nat) : Prop := ∀ i, 1 ≤ i → i < N → f (56 + 2 * i) 1 = nI (P i) ∧ f (56 + 2 * i) 2 = nI (V i) ∧ gst f W m cl (f (56 + 2 * i) 0) (P i + 1) (V i) (P (i + 1)) (V (i + 1))
/-- the made tables: counts n, and orders that do not fall -/
def tL (f : mm_F) (m : Nat) (n cl : Nat → Nat) : Prop := ∀ t, t < m → f (4 + 12 * t) 1 = nI (n t) ∧ n t ≤ 48 ∧ f (4 + 12 * t) 0 = nI (cl t) ∧ 1 ≤ cl t ∧ cl t ≤ 4 ∧ ∀ c, c < cl t → tb_up f t c (n t)
theorem tOK_all {f : mm_F} {W m N t p : Nat} {cl n P V : Nat → Nat} {k : Int32} (hW : W ≤ 40) (hm : m ≤ 4) (hg : gsr f W m cl k t p) (hp1 : P 1 = p) (hN : 1 ≤ N) (hpp : ∀ i, 1 ≤ i → i ≤ N → P i ≤ W) (h0 : f 56 0 = k) (h1 : f 56 1 = nI 0) (hL : cL f W m cl P V N) (hT : tL f m n cl) : ∀ i, i < N → tOK (itB i f) i := by
  intro i hi
  have r0 : (itB i f) (56 + 2 * i) 0 = f (56 + 2 * i) 0 := itB_fr f i _ 0 (by omega)
  have r1 : (itB i f) (56 + 2 * i) 1 = f (56 + 2 * i) 1 := itB_fr f i _ 1 (by omega)
  have r54 : (itB i f) 54 = f 54 := itB_row f i (by omega)
  unfold tOK
  rw [r0, r1, r54]
  have up : ∀ u c x, u < 4 → c < 4 → tb_up f u c x → tb_up (itB i f) u c x := fun u c x hu hc h => tb_up_congr (itB_row f i (by omega)) (itB_row f i (by omega)) h
  by_cases z : i = 0
  · subst z
    obtain ⟨g1, g2, g3, g4⟩ := hg
    obtain ⟨t1, t2, t3, t4, t5, t6⟩ := hT t g1
    have P1 := hpp 1 (by omega) hN
    refine ⟨0, h1, by omega, ?_⟩
    show (f 56 0 = 1 → _) ∧ (f 56 0 = 2 → _) ∧ (f 56 0 = 5 → _) ∧ (f 56 0 = 6 ∨ f 56 0 = 7 → _)
    rw [h0]
    rcases g4 with ⟨y1, y2⟩ | ⟨y1, y2, d, y3, y4, y5⟩
    · rw [y1]
      refine ⟨fun _ => ⟨by omega, t, n t, by omega, g2, ?_, t2, up t 0 _ (by omega) (by omega) (t6 0 (by omega))⟩, fun q => absurd q (by decide), fun q => absurd q (by decide), fun q => absurd q (by decide)⟩
      rw [itB_row f 0 (by omega)]; exact t1
    · rw [y1]
      refine ⟨fun q => absurd q (by decide), fun _ => ⟨by omega, t, d, n t, by omega, by omega, g2, y4, ?_, t2, up t d _ (by omega) (by omega) (t6 d y3)⟩, fun q => absurd q (by decide), fun q => absurd q (by decide)⟩
      rw [itB_row f 0 (by omega)]; exact t1
  · obtain ⟨b1, b2, b3⟩ := hL i (by omega) hi
    have P2 := hpp (i + 1) (by omega) (by omega)
    have hn := b3.next
    refine ⟨P i, b1, by omega, ?_⟩
    generalize f (56 + 2 * i) 0 = K at b3
    rcases b3 with ⟨y1, _⟩ | ⟨y1, _⟩ | ⟨y1, y2, u, d, c, u1, u2, u3, u4, _⟩ | ⟨y1, y2, _⟩ | ⟨y1, _⟩ | ⟨y1, _⟩ | ⟨y1, _⟩
    · rw [y1]; exact ⟨fun q => absurd q (by decide), fun q => absurd q (by decide), fun q => absurd q (by decide), fun q => absurd q (by decide)⟩
    · rw [y1]; exact ⟨fun q => absurd q (by decide), fun q => absurd q (by decide), fun q => absurd q (by decide), fun q => absurd q (by decide)⟩
    · rw [y1]; exact ⟨fun q => absurd q (by decide), fun q => absurd q (by decide), fun _ => ⟨by omega, u, by omega, u4⟩, fun q => absurd q (by decide)⟩
    · rcases y1 with y1 | y1
      · rw [y1]; exact ⟨fun q => absurd q (by decide), fun q => absurd q (by decide), fun q => absurd q (by decide), fun _ => by omega⟩
      · rw [y1]; exact ⟨fun q => absurd q (by decide), fun q => absurd q (by decide), fun q => absurd q (by decide), fun _ => by omega⟩
    · rw [y1]; exact ⟨fun q => absurd q (by decide), fun q => absurd q (by decide), fun q => absurd q (by decide), fun q => absurd q (by decide)⟩
    · rw [y1]; exact ⟨fun q => absurd q (by decide), fun q => absurd q (by decide), fun q => absurd q (by decide), fun q => absurd q (by decide)⟩
    · rw [y1]; exact ⟨fun q => absurd q (by decide), fun q => absurd q (by decide), fun q => absurd q (by decide), fun q => absurd q (by decide)⟩
