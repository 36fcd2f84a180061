/-! Pure: tables of class and reference together; a row comes. -/
theorem TC.congr {f g : mm_F} {t c n : Nat} {L : List Nat} (h : TC f t c n L) (h1 : g (12 + 12 * t + c) = f (12 + 12 * t + c)) (h2 : g (7 + 12 * t + c) = f (7 + 12 * t + c)) (h3 : g (7 + 12 * t + 0) = f (7 + 12 * t + 0)) : TC g t c n L := by
  obtain ⟨a1, a2, a3, a4⟩ := h
  refine ⟨a1, isO_congr h1 a2, a3, pw_imp (fun a b _ _ q => ?_) a4⟩
  rw [lx_congr h2 h3]; exact q
theorem RW.congr {f g : mm_F} {t n cl R : Nat} (h : RW f t n cl R) (hc : ∀ c, c < cl → g (7 + 12 * t + c) = f (7 + 12 * t + c)) (h1 : g 140 = f 140) (h2 : g 141 = f 141) : RW g t n cl R := by
  obtain ⟨a1, a2, a3⟩ := h
  refine ⟨fun s hs => ?_, fun r hr e => ?_, ?_⟩
  · obtain ⟨r, r1, r2, r3⟩ := a1 s hs
    refine ⟨r, r1, by rw [h1]; exact r2, fun c hc' => ?_⟩
    show g 141 (4 * r + c) = g (7 + 12 * t + c) s
    rw [h2, hc c hc']; exact r3 c hc'
  · rw [h1] at e
    obtain ⟨s, s1, s2⟩ := a2 r hr e
    refine ⟨s, s1, fun c hc' => ?_⟩
    show g 141 (4 * r + c) = g (7 + 12 * t + c) s
    rw [h2, hc c hc']; exact s2 c hc'
  · unfold ofN
    rw [h1]; exact a3
/-- the class's tables: m made, n rows and cl columns each -/
def TT (f : mm_F) (m : Nat) (n cl : Nat → Nat) : Prop := f 2 1 = nI m ∧ m ≤ 4 ∧ (∀ t, t < m → f (4 + 12 * t) 0 = nI (cl t) ∧ 1 ≤ cl t ∧ cl t ≤ 4 ∧ f (4 + 12 * t) 1 = nI (n t) ∧ n t ≤ 48 ∧ ∃ L : Nat → List Nat, ∀ c, c < cl t → TC f t c (n t) (L c)) ∧ ∀ t, m ≤ t → t < 4 → f (4 + 12 * t) 1 = nI 0
/-- the reference's tables and rows, and that they are the class's -/
def RT (f : mm_F) (m R : Nat) (n cl : Nat → Nat) : Prop := f 136 1 = nI m ∧ f 136 5 = nI R ∧ R ≤ 48 ∧ smN n m = R ∧ (∀ t, t < m → f 137 t = nI (cl t)) ∧ (∀ t c, t < 4 → c < 4 → f (5 + 12 * t) c = f 138 (4 * t + c)) ∧ (∀ c, c < 4 → f 139 c = f 52 c) ∧ (∀ t, t < m → RW f t (n t) (cl t) R) ∧ RK f R ∧ ∀ r, r < R → ∃ t, t < m ∧ f 140 r = nI t
theorem smN_up {n : Nat → Nat} {t x : Nat} : ∀ m, (m ≤ t → smN (fun u => if u = t then x else n u) m = smN n m) ∧ (t < m → smN (fun u => if u = t then x else n u) m + n t = smN n m + x)
  | 0 => ⟨fun _ => rfl, fun h => by omega⟩
  | m + 1 => by
    obtain ⟨a, b⟩ := smN_up (n := n) (t := t) (x := x) m
    show (_ → smN _ m + (if m = t then x else n m) = smN n m + n m) ∧ (_ → smN _ m + (if m = t then x else n m) + n t = smN n m + n m + x)
    refine ⟨fun h => ?_, fun h => ?_⟩
    · rw [a (by omega), if_neg (by omega)]
    · by_cases z : m = t
      · rw [if_pos z, a (by omega), z]; omega
      · have := b (by omega)
        rw [if_neg z]; omega
theorem insert_both {f f1 : mm_F} {m R t : Nat} {n cl : Nat → Nat} {L : Nat → List Nat} (hT : TT f m n cl) (hR : RT f m R n cl) (ht : t < m) (hR2 : R < 48) (hL : ∀ c, c < cl t → TC f t c (n t) (L c)) (hk : ∀ s, s < n t → tc f t 0 s ≠ f 52 0)
    (h1 : ∀ a, a ≠ 4 + 12 * t → (∀ c, c < cl t → a ≠ 7 + 12 * t + c ∧ a ≠ 12 + 12 * t + c) → f1 a = f a) (h2 : f1 (4 + 12 * t) 1 = nI (n t + 1)) (h3 : ∀ j, j ≠ 1 → f1 (4 + 12 * t) j = f (4 + 12 * t) j)
    (h4 : ∀ c, c < cl t → ∀ s, tc f1 t c s = if s = n t then f 52 c else tc f t c s) (h5 : ∀ c, c < cl t → isO f1 t c (insL (L c) (pio f1 t c (n t) (L c) (n t)) (n t))) :
    TT (insF f1 R (nI t)) m (fun u => if u = t then n t + 1 else n u) cl ∧ RT (insF f1 R (nI t)) m (R + 1) (fun u => if u = t then n t + 1 else n u) cl ∧ ofN (insF f1 R (nI t)) (nI t) (R + 1) = n t + 1 := by
  obtain ⟨t1, t2, t3, t4⟩ := hT
  obtain ⟨r1, r2, r3, r4, r5, r6, r7, r8, r9, r10⟩ := hR
  obtain ⟨c1, c2, c3, c4, c5, c6⟩ := t3 t ht
  have m4 : t < 4 := by omega
  have g1 : ∀ a, a ≠ 136 → a ≠ 140 → a ≠ 141 → (insF f1 R (nI t)) a = f1 a := fun a e1 e2 e3 => by
    funext j
    unfold insF
    rw [if_neg (by omega), if_neg (by omega), if_neg (by omega), if_neg (by omega)]
  have off : ∀ a, (a < 4 ∨ 52 ≤ a) → a ≠ 136 → a ≠ 140 → a ≠ 141 → (insF f1 R (nI t)) a = f a := fun a e0 e1 e2 e3 => by
    rw [g1 a e1 e2 e3]
    exact h1 a (by omega) (fun c hc => by omega)
  have oth : ∀ u k, u < m → u ≠ t → k < 12 → (insF f1 R (nI t)) (4 + 12 * u + k) = f (4 + 12 * u + k) := fun u k hu hut hk12 => by
    rw [g1 _ (by omega) (by omega) (by omega)]
    exact h1 _ (by omega) (fun c hc => by omega)
  have f140 : ∀ r, (insF f1 R (nI t)) 140 r = if r = R then nI t else f 140 r := fun r => by
    unfold insF
    rw [if_neg (by omega)]
    by_cases z : r = R
    · rw [if_pos ⟨rfl, z⟩, if_pos z]
    · rw [if_neg (by omega), if_neg (by omega), if_neg (by omega), if_neg z, h1 140 (by omega) (fun c hc => by omega)]
  have f139 : f1 139 = f 139 := h1 139 (by omega) (fun c hc => by omega)
  have f141 : ∀ j, (insF f1 R (nI t)) 141 j = if 4 * R ≤ j ∧ j < 4 * R + 4 then (fun c => f 139 c) (j - 4 * R) else f 141 j := fun j => by
    unfold insF
    rw [if_neg (by omega), if_neg (by omega)]
    by_cases z : 4 * R ≤ j ∧ j < 4 * R + 4
    · rw [if_pos ⟨rfl, z⟩, if_pos z, f139]
    · rw [if_neg (by omega), if_neg (by omega), if_neg z, h1 141 (by omega) (fun c hc => by omega)]
  have f136 : ∀ j, j ≠ 0 → j ≠ 5 → (insF f1 R (nI t)) 136 j = f 136 j := fun j e1 e2 => by
    unfold insF
    rw [if_neg (by omega), if_neg (by omega), if_neg (by omega), if_neg (by omega), h1 136 (by omega) (fun c hc => by omega)]
  have f5 : (insF f1 R (nI t)) 136 5 = nI (R + 1) := by
    unfold insF
    rw [if_neg (by omega), if_neg (by omega), if_neg (by omega), if_pos ⟨rfl, rfl⟩]
  have tcg : ∀ c s, tc (insF f1 R (nI t)) t c s = tc f1 t c s ∨ 4 ≤ c := fun c s => by
    by_cases z : 4 ≤ c
    · exact Or.inr z
    · left
      show (insF f1 R (nI t)) (7 + 12 * t + c) s = _
      rw [g1 _ (by omega) (by omega) (by omega)]
  have tcc : ∀ c, c < cl t → ∀ s, tc (insF f1 R (nI t)) t c s = if s = n t then f 139 c else tc f t c s := fun c hc s => by
    rcases tcg c s with z | z
    · rw [z, h4 c hc s, r7 c (by omega)]
    · omega
  have hne : ∀ u, u < m → u ≠ t → nI t ≠ nI u := fun u hu hut e => hut ((nI_inj (by omega) (by omega) e).symm)
  have rw1 : RW (insF f1 R (nI t)) t (n t + 1) (cl t) (R + 1) := (r8 t ht).add c3 tcc f140 f141
  have hn48 : n t ≤ R := by
    have := (r8 t ht).2.2
    have := cn_le (fun r => decide (f 140 r = nI t)) R
    unfold ofN at *
    omega
  refine ⟨⟨?_, t2, fun u hu => ?_, fun u hu hu4 => ?_⟩, ⟨?_, f5, by omega, ?_, fun u hu => ?_, fun u c hu hc => ?_, fun c hc => ?_, fun u hu => ?_, ?_, fun r hr => ?_⟩, rw1.2.2⟩
  · rw [off 2 (by omega) (by omega) (by omega) (by omega)]; exact t1
  · by_cases z : u = t
    · subst z
      rw [g1 (4 + 12 * u) (by omega) (by omega) (by omega), h3 0 (by omega)]
      refine ⟨c1, c2, c3, ?_, ?_, fun c => insL (L c) (pio f1 u c (n u) (L c) (n u)) (n u), fun c hc => ?_⟩
      · show f1 (4 + 12 * u) 1 = nI (if u = u then n u + 1 else n u)
        rw [if_pos rfl]; exact h2
      · show (if u = u then n u + 1 else n u) ≤ 48
        rw [if_pos rfl]; omega
      · show TC _ u c (if u = u then n u + 1 else n u) _
        rw [if_pos rfl]
        have base : TC f1 u c (n u + 1) (insL (L c) (pio f1 u c (n u) (L c) (n u)) (n u)) := (hL c hc).add (fun s hs => by rw [h4 c hc s, if_neg (by omega)]) (fun s hs => by rw [h4 0 (by omega) s, if_neg (by omega)]) (fun s hs => by rw [h4 0 (by omega) s, if_neg (by omega), h4 0 (by omega) (n u), if_pos rfl]; exact hk s hs) (h5 c hc)
        exact base.congr (g1 _ (by omega) (by omega) (by omega)) (g1 _ (by omega) (by omega) (by omega)) (g1 _ (by omega) (by omega) (by omega))
    · obtain ⟨d1, d2, d3, d4, d5, LL, d6⟩ := t3 u hu
      have e0 := oth u 0 hu z (by omega)
      rw [Nat.add_zero] at e0
      rw [e0]
      refine ⟨d1, d2, d3, ?_, ?_, LL, fun c hc => ?_⟩
      · show f (4 + 12 * u) 1 = nI (if u = t then n t + 1 else n u)
        rw [if_neg z]; exact d4
      · show (if u = t then n t + 1 else n u) ≤ 48
        rw [if_neg z]; exact d5
      · show TC _ u c (if u = t then n t + 1 else n u) _
        rw [if_neg z]
        refine (d6 c hc).congr ?_ ?_ ?_
        · have := oth u (8 + c) hu z (by omega)
          rw [show 4 + 12 * u + (8 + c) = 12 + 12 * u + c by omega] at this; exact this
        · have := oth u (3 + c) hu z (by omega)
          rw [show 4 + 12 * u + (3 + c) = 7 + 12 * u + c by omega] at this; exact this
        · have := oth u 3 hu z (by omega)
          rw [show 4 + 12 * u + 3 = 7 + 12 * u + 0 by omega] at this; exact this
  · rw [g1 _ (by omega) (by omega) (by omega), h1 _ (by omega) (fun c hc => by omega)]; exact t4 u hu hu4
  · rw [f136 1 (by omega) (by omega)]; exact r1
  · have := (smN_up (n := n) (t := t) (x := n t + 1) m).2 ht
    omega
  · rw [off 137 (by omega) (by omega) (by omega) (by omega)]; exact r5 u hu
  · rw [off 138 (by omega) (by omega) (by omega) (by omega), g1 _ (by omega) (by omega) (by omega), h1 _ (by omega) (fun c' hc' => by omega)]; exact r6 u c hu hc
  · rw [off 139 (by omega) (by omega) (by omega) (by omega), off 52 (by omega) (by omega) (by omega) (by omega)]; exact r7 c hc
  · by_cases z : u = t
    · subst z
      show RW _ u (if u = u then n u + 1 else n u) (cl u) (R + 1)
      rw [if_pos rfl]; exact rw1
    · show RW _ u (if u = t then n t + 1 else n u) (cl u) (R + 1)
      rw [if_neg z]
      have d3 := (t3 u hu).2.2.1
      refine (r8 u hu).addO d3 (hne u hu z) (fun c hc s => ?_) f140 f141
      have := oth u (3 + c) hu z (by omega)
      rw [show 4 + 12 * u + (3 + c) = 7 + 12 * u + c by omega] at this
      show (insF f1 R (nI t)) (7 + 12 * u + c) s = f (7 + 12 * u + c) s
      rw [this]
  · refine r9.add f140 f141 (fun r hr e => ?_)
    obtain ⟨s, s1, s2⟩ := (r8 t ht).2.1 r hr e
    have e0 := s2 0 (by omega)
    rw [Nat.add_zero] at e0
    rw [e0]
    show _ ≠ f 139 0
    rw [r7 0 (by omega)]; exact hk s s1
  · by_cases z : r = R
    · exact ⟨t, ht, by rw [f140, if_pos z]⟩
    · obtain ⟨u, u1, u2⟩ := r10 r (by omega)
      exact ⟨u, u1, by rw [f140, if_neg z]; exact u2⟩
