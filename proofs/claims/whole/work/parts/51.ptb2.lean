/-! Pure: a row comes into a table, a row leaves. -/
theorem pw_imp {α : Type} {R S : α → α → Prop} {l : List α} (H : ∀ a b, a ∈ l → b ∈ l → R a b → S a b) (p : l.Pairwise R) : l.Pairwise S := by
  rw [List.pairwise_iff_getElem] at p ⊢
  exact fun i j hi hj h => H _ _ (List.getElem_mem hi) (List.getElem_mem hj) (p i j hi hj h)
theorem pio_spec {f : mm_F} {t c s : Nat} {L : List Nat} : ∀ n, n ≤ L.length → (∀ i (hi : i < L.length), pio f t c s L n ≤ i → i < n → lx f t c s L[i] = true) ∧ ∀ k (hk : k < L.length), pio f t c s L n = k + 1 → ¬ lx f t c s L[k] = true
  | 0, _ => ⟨fun i hi h1 h2 => by omega, fun k hk h => by
      have : pio f t c s L 0 = 0 := rfl
      omega⟩
  | n + 1, hn => by
    obtain ⟨a1, a2⟩ := pio_spec (f := f) (t := t) (c := c) (s := s) (L := L) n (by omega)
    have e : L.getD n 0 = L[n] := by rw [List.getD_eq_getElem?_getD, List.getElem?_eq_getElem (by omega)]; rfl
    have hx : pio f t c s L (n + 1) = if lx f t c s (L.getD n 0) then pio f t c s L n else n + 1 := rfl
    rw [e] at hx
    by_cases q : lx f t c s L[n] = true
    · rw [if_pos q] at hx
      rw [hx]
      refine ⟨fun i hi h1 h2 => ?_, a2⟩
      by_cases z : i = n
      · subst z; exact q
      · exact a1 i hi h1 (by omega)
    · rw [if_neg q] at hx
      rw [hx]
      refine ⟨fun i hi h1 h2 => by omega, fun k hk h => ?_⟩
      have : k = n := by omega
      subst this; exact q
theorem TC.add {f g : mm_F} {t c n : Nat} {L : List Nat} (h : TC f t c n L) (hc : ∀ s, s < n → tc g t c s = tc f t c s) (h0 : ∀ s, s < n → tc g t 0 s = tc f t 0 s) (hk : ∀ s, s < n → tc g t 0 s ≠ tc g t 0 n) (hO : isO g t c (insL L (pio g t c n L n) n)) : TC g t c (n + 1) (insL L (pio g t c n L n) n) := by
  obtain ⟨h1, h2, h3, h4⟩ := h
  have hlt : ∀ i (hi : i < L.length), L[i] < n := fun i hi => (h3 _).mp (List.getElem_mem hi)
  have h4' : L.Pairwise (fun a b => lx g t c a b = true) := pw_imp (fun a b ha hb q => by
    rw [lx_of (hc a ((h3 a).mp ha)) (hc b ((h3 b).mp hb)) (h0 a ((h3 a).mp ha)) (h0 b ((h3 b).mp hb))]; exact q) h4
  obtain ⟨p1, p2⟩ := pio_spec (f := g) (t := t) (c := c) (s := n) (L := L) n (by omega)
  have hle := pio_le (f := g) (t := t) (c := c) (s := n) (L := L) n
  generalize pio g t c n L n = k at hO p1 p2 hle
  have hd : ∀ b, b ∈ L.drop k → lx g t c n b = true := fun b hb => by
    obtain ⟨j, hj, ej⟩ := List.getElem_of_mem hb
    rw [List.length_drop] at hj
    rw [List.getElem_drop] at ej
    rw [← ej]
    exact p1 (k + j) (by omega) (by omega) (by omega)
  have ht : ∀ a, a ∈ L.take k → lx g t c a n = true := fun a ha => by
    obtain ⟨i, hi, ei⟩ := List.getElem_of_mem ha
    rw [List.length_take] at hi
    rw [List.getElem_take] at ei
    have hlast : lx g t c (L[k - 1]'(by omega)) n = true := by
      refine lx_tot (fun e => hk _ (hlt (k - 1) (by omega)) e.symm) ?_
      exact p2 (k - 1) (by omega) (by omega)
    rw [← ei]
    by_cases z : i = k - 1
    · subst z; exact hlast
    · exact lx_tr (List.pairwise_iff_getElem.mp h4' i (k - 1) (by omega) (by omega) (by omega)) hlast
  refine ⟨?_, hO, fun x => ?_, ?_⟩
  · unfold insL
    rw [List.length_append, List.length_cons, List.length_take, List.length_drop]
    omega
  · unfold insL
    rw [List.mem_append, List.mem_cons]
    constructor
    · rintro (z | z | z)
      · have := (h3 x).mp (List.mem_of_mem_take z); omega
      · omega
      · have := (h3 x).mp (List.mem_of_mem_drop z); omega
    · intro z
      by_cases e : x = n
      · exact Or.inr (Or.inl e)
      · have hx := (h3 x).mpr (by omega)
        rw [← List.take_append_drop k L, List.mem_append] at hx
        rcases hx with hx | hx
        · exact Or.inl hx
        · exact Or.inr (Or.inr hx)
  · unfold insL
    rw [List.pairwise_append]
    refine ⟨h4'.sublist (List.take_sublist _ _), List.pairwise_cons.mpr ⟨hd, h4'.sublist (List.drop_sublist _ _)⟩, fun a ha b hb => ?_⟩
    rcases List.mem_cons.mp hb with e | hb
    · rw [e]; exact ht a ha
    · exact lx_tr (ht a ha) (hd b hb)
theorem TC.rem {f g : mm_F} {t c n s : Nat} {L : List Nat} (h : TC f t c n L) (hs : s < n) (hc : ∀ x, tc g t c x = if x = s then tc f t c (n - 1) else tc f t c x) (h0 : ∀ x, tc g t 0 x = if x = s then tc f t 0 (n - 1) else tc f t 0 x) (hO : isO g t c (rmL L s (n - 1))) : TC g t c (n - 1) (rmL L s (n - 1)) := by
  obtain ⟨h1, h2, h3, h4⟩ := h
  have nd : L.Nodup := by
    unfold List.Nodup
    exact pw_imp (fun a b _ _ q e => by rw [e] at q; exact lx_irr q) h4
  have ren : ∀ c', (∀ x, tc g t c' x = if x = s then tc f t c' (n - 1) else tc f t c' x) → ∀ x, x ≠ s → tc g t c' (if x = n - 1 then s else x) = tc f t c' x := fun c' hc' x hx => by
    by_cases z : x = n - 1
    · rw [if_pos z, hc', if_pos rfl, z]
    · rw [if_neg z, hc', if_neg hx]
  refine ⟨?_, hO, fun y => ?_, ?_⟩
  · unfold rmL
    rw [List.length_map, ← nd.erase_eq_filter s, List.length_erase_of_mem ((h3 s).mpr hs), h1]
  · unfold rmL
    rw [List.mem_map]
    constructor
    · rintro ⟨x, hx, e⟩
      rw [List.mem_filter] at hx
      have x1 := (h3 x).mp hx.1
      have x2 : x ≠ s := by simpa using hx.2
      by_cases z : x = n - 1
      · rw [if_pos z] at e; omega
      · rw [if_neg z] at e; omega
    · intro hy
      by_cases z : y = s
      · refine ⟨n - 1, List.mem_filter.mpr ⟨(h3 _).mpr (by omega), ?_⟩, by rw [if_pos rfl]; exact z.symm⟩
        have : n - 1 ≠ s := by omega
        simpa using this
      · refine ⟨y, List.mem_filter.mpr ⟨(h3 _).mpr (by omega), ?_⟩, by rw [if_neg (by omega)]⟩
        simpa using z
  · unfold rmL
    rw [List.pairwise_map]
    refine pw_imp (fun a b ha hb q => ?_) (h4.sublist List.filter_sublist)
    rw [List.mem_filter] at ha hb
    have a2 : a ≠ s := by simpa using ha.2
    have b2 : b ≠ s := by simpa using hb.2
    rw [lx_of (ren c hc a a2) (ren c hc b b2) (ren 0 h0 a a2) (ren 0 h0 b b2)]
    exact q
