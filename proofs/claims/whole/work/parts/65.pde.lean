/-! Pure: a row leaves class and reference. -/
theorem delete_both {f f1 : mm_F} {m R t s r : Nat} {n cl : Nat → Nat} {L : Nat → List Nat} (hT : TT f m n cl) (hR : RT f m R n cl) (ht : t < m) (hL : ∀ c, c < cl t → TC f t c (n t) (L c)) (hs : s < n t) (hr : r < R) (hr1 : f 140 r = nI t) (hrs : f 141 (4 * r) = tc f t 0 s)
    (h1 : ∀ a, a ≠ 4 + 12 * t → (∀ c, c < cl t → a ≠ 7 + 12 * t + c ∧ a ≠ 12 + 12 * t + c) → f1 a = f a) (h2 : f1 (4 + 12 * t) 1 = nI (n t - 1)) (h3 : ∀ j, j ≠ 1 → f1 (4 + 12 * t) j = f (4 + 12 * t) j)
    (h4 : ∀ c, c < cl t → ∀ x, tc f1 t c x = if x = s then tc f t c (n t - 1) else tc f t c x) (h5 : ∀ c, c < cl t → isO f1 t c (rmL (L c) s (n t - 1))) :
    TT (delF f1 R r) m (fun u => if u = t then n t - 1 else n u) cl ∧ RT (delF f1 R r) m (R - 1) (fun u => if u = t then n t - 1 else n u) cl ∧ ofN (delF f1 R r) (nI t) (R - 1) = n t - 1 := by
  obtain ⟨t1, t2, t3, t4⟩ := hT
  obtain ⟨r1, r2, r3, r4, r5, r6, r7, r8, r9, r10⟩ := hR
  obtain ⟨c1, c2, c3, c4, c5, c6⟩ := t3 t ht
  have m4 : t < 4 := by omega
  have g1 : ∀ a, a ≠ 136 → a ≠ 140 → a ≠ 141 → (delF f1 R r) a = f1 a := fun a e1 e2 e3 => by
    funext j
    unfold delF
    rw [if_neg (by omega), if_neg (by omega), if_neg (by omega), if_neg (by omega)]
  have off : ∀ a, (a < 4 ∨ 52 ≤ a) → a ≠ 136 → a ≠ 140 → a ≠ 141 → (delF f1 R r) a = f a := fun a e0 e1 e2 e3 => by
    rw [g1 a e1 e2 e3]
    exact h1 a (by omega) (fun c hc => by omega)
  have oth : ∀ u k, u < m → u ≠ t → k < 12 → (delF f1 R r) (4 + 12 * u + k) = f (4 + 12 * u + k) := fun u k hu hut hk12 => by
    rw [g1 _ (by omega) (by omega) (by omega)]
    exact h1 _ (by omega) (fun c hc => by omega)
  have o140 : f1 140 = f 140 := h1 140 (by omega) (fun c hc => by omega)
  have o141 : f1 141 = f 141 := h1 141 (by omega) (fun c hc => by omega)
  have f140 : ∀ q, (delF f1 R r) 140 q = if q = r then f 140 (R - 1) else f 140 q := fun q => by
    unfold delF
    rw [if_neg (by omega)]
    by_cases z : q = r
    · rw [if_pos ⟨rfl, z⟩, if_pos z, o140]
    · rw [if_neg (by omega), if_neg (by omega), if_neg (by omega), if_neg z, o140]
  have f141 : ∀ j, (delF f1 R r) 141 j = if 4 * r ≤ j ∧ j < 4 * r + 4 then f 141 (4 * (R - 1) + (j - 4 * r)) else f 141 j := fun j => by
    unfold delF
    rw [if_neg (by omega), if_neg (by omega)]
    by_cases z : 4 * r ≤ j ∧ j < 4 * r + 4
    · rw [if_pos ⟨rfl, z⟩, if_pos z, o141]
    · rw [if_neg (by omega), if_neg (by omega), if_neg z, o141]
  have f136 : ∀ j, j ≠ 0 → j ≠ 5 → (delF f1 R r) 136 j = f 136 j := fun j e1 e2 => by
    unfold delF
    rw [if_neg (by omega), if_neg (by omega), if_neg (by omega), if_neg (by omega), h1 136 (by omega) (fun c hc => by omega)]
  have f5 : (delF f1 R r) 136 5 = nI (R - 1) := by
    unfold delF
    rw [if_neg (by omega), if_neg (by omega), if_neg (by omega), if_pos ⟨rfl, rfl⟩]
  have tcc : ∀ c, c < cl t → ∀ x, tc (delF f1 R r) t c x = if x = s then tc f t c (n t - 1) else tc f t c x := fun c hc x => by
    show (delF f1 R r) (7 + 12 * t + c) x = _
    rw [g1 _ (by omega) (by omega) (by omega)]
    exact h4 c hc x
  have hne : ∀ u, u < m → u ≠ t → nI t ≠ nI u := fun u hu hut e => hut ((nI_inj (by omega) (by omega) e).symm)
  have rw1 : RW (delF f1 R r) t (n t - 1) (cl t) (R - 1) := (r8 t ht).rem r9 c2 c3 hs hr hr1 hrs (fun a b ha hb e => (hL 0 (by omega)).keys ha hb e) tcc f140 f141
  refine ⟨⟨?_, t2, fun u hu => ?_, fun u hu hu4 => ?_⟩, ⟨?_, f5, by omega, ?_, fun u hu => ?_, fun u c hu hc => ?_, fun c hc => ?_, fun u hu => ?_, ?_, fun q hq => ?_⟩, rw1.2.2⟩
  · rw [off 2 (by omega) (by omega) (by omega) (by omega)]; exact t1
  · by_cases z : u = t
    · subst z
      rw [g1 (4 + 12 * u) (by omega) (by omega) (by omega), h3 0 (by omega)]
      refine ⟨c1, c2, c3, ?_, ?_, fun c => rmL (L c) s (n u - 1), fun c hc => ?_⟩
      · show f1 (4 + 12 * u) 1 = nI (if u = u then n u - 1 else n u)
        rw [if_pos rfl]; exact h2
      · show (if u = u then n u - 1 else n u) ≤ 48
        rw [if_pos rfl]; omega
      · show TC _ u c (if u = u then n u - 1 else n u) _
        rw [if_pos rfl]
        have base : TC f1 u c (n u - 1) (rmL (L c) s (n u - 1)) := (hL c hc).rem hs (h4 c hc) (h4 0 (by omega)) (h5 c hc)
        exact base.congr (g1 _ (by omega) (by omega) (by omega)) (g1 _ (by omega) (by omega) (by omega)) (g1 _ (by omega) (by omega) (by omega))
    · obtain ⟨d1, d2, d3, d4, d5, LL, d6⟩ := t3 u hu
      have e0 := oth u 0 hu z (by omega)
      rw [Nat.add_zero] at e0
      rw [e0]
      refine ⟨d1, d2, d3, ?_, ?_, LL, fun c hc => ?_⟩
      · show f (4 + 12 * u) 1 = nI (if u = t then n t - 1 else n u)
        rw [if_neg z]; exact d4
      · show (if u = t then n t - 1 else n u) ≤ 48
        rw [if_neg z]; exact d5
      · show TC _ u c (if u = t then n t - 1 else n u) _
        rw [if_neg z]
        refine (d6 c hc).congr ?_ ?_ ?_
        · have := oth u (8 + c) hu z (by omega)
          rw [show 4 + 12 * u + (8 + c) = 12 + 12 * u + c by omega] at this; exact this
        · have := oth u (3 + c) hu z (by omega)
          rw [show 4 + 12 * u + (3 + c) = 7 + 12 * u + c by omega] at this; exact this
        · have := oth u 3 hu z (by omega)
          rw [show 4 + 12 * u + 3 = 7 + 12 * u + 0 by omega] at this; exact this
  · rw [g1 _ (by omega) (by omega) (by omega), h1 _ (by omega) (fun c hc => by omega)]; exact t4 u hu hu4
  · rw [f136 1 (by omega) (by omega)]; exact r1
  · have := (smN_up (n := n) (t := t) (x := n t - 1) m).2 ht
    omega
  · rw [off 137 (by omega) (by omega) (by omega) (by omega)]; exact r5 u hu
  · rw [off 138 (by omega) (by omega) (by omega) (by omega), g1 _ (by omega) (by omega) (by omega), h1 _ (by omega) (fun c' hc' => by omega)]; exact r6 u c hu hc
  · rw [off 139 (by omega) (by omega) (by omega) (by omega), off 52 (by omega) (by omega) (by omega) (by omega)]; exact r7 c hc
  · by_cases z : u = t
    · subst z
      show RW _ u (if u = u then n u - 1 else n u) (cl u) (R - 1)
      rw [if_pos rfl]; exact rw1
    · show RW _ u (if u = t then n t - 1 else n u) (cl u) (R - 1)
      rw [if_neg z]
      have d3 := (t3 u hu).2.2.1
      refine (r8 u hu).remO d3 hr hr1 (hne u hu z) (fun c hc x => ?_) f140 f141
      have := oth u (3 + c) hu z (by omega)
      rw [show 4 + 12 * u + (3 + c) = 7 + 12 * u + c by omega] at this
      show (delF f1 R r) (7 + 12 * u + c) x = f (7 + 12 * u + c) x
      rw [this]
  · exact r9.rem hr f140 f141
  · rw [f140]
    by_cases z : q = r
    · rw [if_pos z]; exact r10 (R - 1) (by omega)
    · rw [if_neg z]; exact r10 q (by omega)
