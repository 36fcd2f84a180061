/-! add, removeFromOrder, remove, slotOf, copyRow. -/
section CTB3
variable {E : mm_E} {w : mm_W} {f : mm_F} {t : Nat}
theorem lx_congr {g : mm_F} {c a b : Nat} (h1 : g (7 + 12 * t + c) = f (7 + 12 * t + c)) (h0 : g (7 + 12 * t + 0) = f (7 + 12 * t + 0)) : lx g t c a b = lx f t c a b := by
  unfold lx tc
  rw [h1, h0]
theorem pio_congr {g : mm_F} {c s : Nat} {L : List Nat} (h1 : g (7 + 12 * t + c) = f (7 + 12 * t + c)) (h0 : g (7 + 12 * t + 0) = f (7 + 12 * t + 0)) : ∀ n, pio g t c s L n = pio f t c s L n
  | 0 => rfl
  | n + 1 => by
    have := pio_congr (s := s) (L := L) h1 h0 n
    unfold pio
    rw [this, lx_congr h1 h0]
theorem isO_congr {g : mm_F} {c : Nat} {L : List Nat} (h : g (12 + 12 * t + c) = f (12 + 12 * t + c)) (hO : isO f t c L) : isO g t c L := fun p hp => by
  show g (12 + 12 * t + c) p = _
  rw [h]
  exact hO p hp
theorem c_TB_add {n cols : Nat} {L : Nat → List Nat} (hw : mm_sh w) (ht : t < 4) (hcl : f (4 + 12 * t) 0 = nI cols) (hcl2 : cols ≤ 4) (hn : f (4 + 12 * t) 1 = nI n) (hn2 : n < 48) (hL : ∀ c, c < cols → (L c).length = n ∧ isO f t c (L c) ∧ ∀ x ∈ L c, x < 48) :
    mm_C E y_TB_add b_TB_add 3 none 2 0 0 [mm_rf E (4 + 12 * t), mm_rf E 52] w f
      (fun r w' f' => r = none ∧ w' = w ∧ (∀ a, a ≠ 4 + 12 * t → (∀ c, c < cols → a ≠ 7 + 12 * t + c ∧ a ≠ 12 + 12 * t + c) → f' a = f a) ∧ f' (4 + 12 * t) 1 = nI (n + 1) ∧ (∀ j, j ≠ 1 → f' (4 + 12 * t) j = f (4 + 12 * t) j) ∧
        (∀ c, c < cols → ∀ s, tc f' t c s = if s = n then f 52 c else tc f t c s) ∧ ∀ c, c < cols → isO f' t c (insL (L c) (pio f' t c n (L c) n) n)) := by
  refine mm_start (by decide) rfl (Nat.le_of_ble_eq_true rfl) fun Γ h he => ?_
  have loop2 : ∀ d k, k + d = cols → ∀ g : mm_F, (∀ a, (∀ c, c < cols → a ≠ 7 + 12 * t + c) → (∀ c, c < k → a ≠ 12 + 12 * t + c) → g a = f a) → (∀ c, c < cols → ∀ s, tc g t c s = if s = n then f 52 c else tc f t c s) → (∀ c, c < k → isO g t c (insL (L c) (pio g t c n (L c) n) n)) →
      mm_go E Γ 3 32 [(0, mm_rf E (4 + 12 * t)), (1, mm_rf E 52), (2, .int (nI k))] [] w g 0 0 := by
    intro d
    induction d with
    | zero =>
      intro k hk g g1 g2 g3
      have hk' : k = cols := by omega
      subst hk'
      have e0 : g (4 + 12 * t) = f (4 + 12 * t) := g1 _ (fun c _ => by omega) (fun c _ => by omega)
      refine s_TB_add_32 (vl0 := 0) (vc0 := 0) (vs0 := 0) (P0 := fun _ _ _ => False) h he (Nat.le_refl _) (Nat.le_refl _) hw ht (fun _ => ?_) (by omega) (by omega) (by omega) (fun q => ?_) (fun q => ?_)
      · refine ⟨rfl, rfl, fun a ha hb => ?_, ?_, fun j hj => ?_, fun c hc s => ?_, fun c hc => ?_⟩
        · rw [mm_up_off _ _ ha]
          exact g1 a (fun c hc => (hb c hc).1) (fun c hc => (hb c hc).2)
        · rw [mm_up_eq, e0, hn, nI_1]
        · rw [mm_up_ne _ _ (by omega), e0]
        · show mm_up _ _ _ _ (7 + 12 * t + c) s = _
          rw [mm_up_ne _ _ (by omega)]
          exact g2 c hc s
        · rw [pio_congr (f := g) (mm_up_off _ _ (by omega)) (mm_up_off _ _ (by omega))]
          exact isO_congr (mm_up_off _ _ (by omega)) (g3 c hc)
      · rw [e0, hcl] at q; exact absurd (Int32.le_refl _) q
      · rw [e0, hcl] at q; exact absurd (Int32.le_refl _) q
    | succ d ih =>
      intro k hk g g1 g2 g3
      have e0 : g (4 + 12 * t) = f (4 + 12 * t) := g1 _ (fun c _ => by omega) (fun c _ => by omega)
      obtain ⟨l1, l2, l3⟩ := hL k (by omega)
      have hOk : isO g t k (L k) := isO_congr (g1 _ (fun c _ => by omega) (fun c _ => by omega)) l2
      have hput := c_TB_putInOrder (E := E) (c := k) (s := n) (n := n) hw ht (by omega) hn2 (by rw [e0]; exact hn) hn2 l1 hOk l3
      refine s_TB_add_32 (vl0 := 1) (vc0 := 0) (vs0 := 0) h he (Nat.le_refl _) (Nat.le_refl _) hw ht (fun q => ?_) (by omega) (by omega) (by omega) (fun q => ?_) (fun q => ?_) (P0 := fun r w' f' => r = none ∧ w' = w ∧ (∀ a, a ≠ 12 + 12 * t + k → f' a = g a) ∧ isO f' t k (insL (L k) (pio g t k n (L k) n) n))
      · rw [e0, hcl, nI_leI (by omega) (by omega)] at q; omega
      · rw [e0, hn]; exact hput
      · rintro _ _ f1 ⟨rfl, rfl, p1, p2⟩
        refine s_TB_add_49 h hw ht ?_
        rw [nI_1]
        have ec : f1 (7 + 12 * t + 0) = g (7 + 12 * t + 0) := p1 _ (by omega)
        refine ih (k + 1) (by omega) f1 (fun a ha hb => ?_) (fun c hc s => ?_) (fun c hc => ?_)
        · rw [p1 a (hb k (by omega))]
          exact g1 a ha (fun c hc => hb c (by omega))
        · show f1 (7 + 12 * t + c) s = _
          rw [p1 _ (by omega)]
          exact g2 c hc s
        · rw [pio_congr (f := g) (p1 _ (by omega)) ec]
          by_cases hck : c = k
          · subst hck; exact p2
          · exact isO_congr (p1 _ (by omega)) (g3 c (by omega))
  have loop1 : ∀ d k, k + d = cols → ∀ g : mm_F, (∀ a, (∀ c, c < k → a ≠ 7 + 12 * t + c) → g a = f a) → (∀ c, c < k → ∀ s, tc g t c s = if s = n then f 52 c else tc f t c s) →
      mm_go E Γ 3 2 [(0, mm_rf E (4 + 12 * t)), (1, mm_rf E 52), (2, .int (nI k))] [] w g 0 0 := by
    intro d
    induction d with
    | zero =>
      intro k hk g g1 g2
      have hk' : k = cols := by omega
      subst hk'
      have e0 : g (4 + 12 * t) = f (4 + 12 * t) := g1 _ (fun c _ => by omega)
      refine s_TB_add_2 h hw ht (fun _ => ?_) (fun q => ?_) (fun q => ?_) (fun q => ?_)
      · exact loop2 k 0 (by omega) g (fun a ha _ => g1 a ha) g2 (fun c hc => by omega)
      · rw [e0, hcl] at q; exact absurd (Int32.le_refl _) q
      · rw [e0, hcl] at q; exact absurd (Int32.le_refl _) q
      · rw [e0, hcl] at q; exact absurd (Int32.le_refl _) q
    | succ d ih =>
      intro k hk g g1 g2
      have e0 : g (4 + 12 * t) = f (4 + 12 * t) := g1 _ (fun c _ => by omega)
      have ek := nI_clamp (n := k) (by omega)
      have en := nI_clamp (n := n) (by omega)
      refine s_TB_add_2 h hw ht (fun q => ?_) (fun q => mm_inI (by omega) (by omega)) (fun q => ?_) (fun q => ?_)
      · rw [e0, hcl, nI_leI (by omega) (by omega)] at q; omega
      · rw [e0, hn]; exact mm_inI hn2 (by omega)
      · rw [nI_1, e0, hn, ek, en]
        refine ih (k + 1) (by omega) _ (fun a ha => ?_) (fun c hc s => ?_)
        · rw [mm_up_off _ _ (ha k (by omega))]
          exact g1 a (fun c hc => ha c (by omega))
        · show mm_up g (7 + 12 * t + k) n _ (7 + 12 * t + c) s = _
          by_cases hck : c = k
          · subst hck
            by_cases hsn : s = n
            · subst hsn
              rw [mm_up_eq, if_pos rfl, g1 52 (fun c _ => by omega)]
            · rw [mm_up_ne _ _ (by omega), if_neg hsn, g1 _ (fun c _ => by omega)]
          · rw [mm_up_ne _ _ (by omega)]
            exact g2 c (by omega) s
  refine s_TB_add_0 h hw ht ?_
  exact loop1 cols 0 (by omega) f (fun _ _ => rfl) (fun c hc => by omega)
/-- the list without s, where the last slot's number has become s -/
def rmL (L : List Nat) (s last : Nat) : List Nat := (L.filter (fun x => x != s)).map (fun x => if x = last then s else x)
theorem rmL_snoc (L : List Nat) (x s last : Nat) : rmL (L ++ [x]) s last = rmL L s last ++ (if x = s then [] else [if x = last then s else x]) := by
  unfold rmL
  rw [List.filter_append, List.map_append]
  by_cases h : x = s
  · simp [h]
  · simp [h]
theorem rmL_len (L : List Nat) (s last : Nat) : (rmL L s last).length ≤ L.length := by
  unfold rmL
  rw [List.length_map]
  exact List.length_filter_le _ _
theorem take_snoc {α : Type} {L : List α} {j : Nat} (h : j < L.length) : L.take (j + 1) = L.take j ++ [L[j]] := by
  rw [List.take_succ, List.getElem?_eq_getElem h]
  rfl
theorem c_TB_removeFromOrder {c s n : Nat} {L : List Nat} (hw : mm_sh w) (ht : t < 4) (hc : c < 4) (hs : s < 48) (hn : f (4 + 12 * t) 1 = nI n) (hn2 : n ≤ 48) (hn0 : 0 < n) (hL : L.length = n) (hO : isO f t c L) (hL2 : ∀ x ∈ L, x < 48) :
    mm_C E y_TB_removeFromOrder b_TB_removeFromOrder 8 none 0 0 0 [mm_rf E (4 + 12 * t), .int (nI c), .int (nI s), .int (nI (n - 1))] w f
      (fun r w' f' => r = none ∧ w' = w ∧ (∀ a, a ≠ 12 + 12 * t + c → f' a = f a) ∧ isO f' t c (rmL L s (n - 1))) := by
  refine mm_start (by decide) rfl (Nat.le_of_ble_eq_true rfl) fun Γ h he => ?_
  have e1 := nI_clamp (n := c) (by omega)
  have loop : ∀ d j, j + d = n → ∀ g : mm_F, (∀ a, a ≠ 12 + 12 * t + c → g a = f a) → isO g t c (rmL (L.take j) s (n - 1)) → (∀ p (hp : p < L.length), j ≤ p → to g t c p = nI L[p]) →
      mm_go E Γ 8 14 [(0, mm_rf E (4 + 12 * t)), (1, .int (nI c)), (2, .int (nI s)), (3, .int (nI (n - 1))), (4, mm_rf E (12 + 12 * t + c)), (5, .int (nI (rmL (L.take j) s (n - 1)).length)), (6, .int (nI j))] [] w g 0 0 := by
    intro d
    induction d with
    | zero =>
      intro j hj g g1 g2 g3
      have hj' : j = n := by omega
      subst hj'
      have e0 : g (4 + 12 * t) = f (4 + 12 * t) := g1 _ (by omega)
      have ht' : L.take j = L := List.take_of_length_le (by omega)
      refine s_TB_removeFromOrder_14 h he (Nat.le_refl _) (Nat.le_refl _) hw ht ht hc (fun _ => ?_) (fun q => ?_) (fun q => ?_) (fun q => ?_) (fun q => ?_)
      · rw [ht'] at g2
        exact ⟨rfl, rfl, g1, g2⟩
      all_goals (rw [e0, hn] at q; exact absurd (Int32.le_refl _) q)
    | succ d ih =>
      intro j hj g g1 g2 g3
      have hjl : j < L.length := by omega
      have e0 : g (4 + 12 * t) = f (4 + 12 * t) := g1 _ (by omega)
      have ej := nI_clamp (n := j) (by omega)
      have hgj : g (12 + 12 * t + c) j = nI L[j] := g3 j hjl (Nat.le_refl _)
      have hLj : L[j] < 48 := hL2 _ (List.getElem_mem hjl)
      have hlen : (rmL (L.take j) s (n - 1)).length ≤ j := Nat.le_trans (rmL_len _ _ _) (by rw [List.length_take]; omega)
      have ek := nI_clamp (n := (rmL (L.take j) s (n - 1)).length) (by omega)
      have hsn := rmL_snoc (L.take j) L[j] s (n - 1)
      rw [← take_snoc hjl] at hsn
      have put : ∀ v : Nat, L[j] ≠ s → v = (if L[j] = n - 1 then s else L[j]) → mm_go E Γ 8 52 [(0, mm_rf E (4 + 12 * t)), (1, .int (nI c)), (2, .int (nI s)), (3, .int (nI (n - 1))), (4, mm_rf E (12 + 12 * t + c)), (5, .int (nI (rmL (L.take j) s (n - 1)).length)), (6, .int (nI j)), (7, .int (nI L[j]))] [.int (nI v), .int (nI (rmL (L.take j) s (n - 1)).length), mm_rf E (12 + 12 * t + c)] w g 0 0 := by
        intro v hne hv
        refine s_TB_removeFromOrder_52 h hw ht ht hc ht hc (mm_inI (by omega) (by omega)) ?_
        refine s_TB_removeFromOrder_56 h hw ht ht hc ?_
        rw [if_neg hne, ← hv] at hsn
        have hl2 : (rmL (L.take (j + 1)) s (n - 1)).length = (rmL (L.take j) s (n - 1)).length + 1 := by rw [hsn, List.length_append]; rfl
        rw [nI_1, nI_1, ek, ← hl2]
        refine ih (j + 1) (by omega) _ (fun a ha => by rw [mm_up_off _ _ ha]; exact g1 a ha) (fun p hp => ?_) (fun p hp h1 => ?_)
        · show mm_up g _ _ _ (12 + 12 * t + c) p = _
          have hp' := hp
          rw [hl2] at hp'
          simp only [hsn]
          by_cases h1 : p = (rmL (L.take j) s (n - 1)).length
          · subst h1
            rw [mm_up_eq, List.getElem_append_right (Nat.le_refl _)]
            simp
          · rw [mm_up_ne _ _ (by omega), List.getElem_append_left (by omega)]
            exact g2 p (by omega)
        · show mm_up g _ _ _ (12 + 12 * t + c) p = _
          rw [mm_up_ne _ _ (by omega)]
          exact g3 p hp (by omega)
      refine s_TB_removeFromOrder_14 h he (Nat.le_refl _) (Nat.le_refl _) hw ht ht hc (fun q => ?_) (fun q => mm_inI (by omega) (by omega)) (fun q1 q2 => ?_) (fun q1 q2 q3 => ?_) (fun q1 q2 q3 => ?_)
      · rw [e0, hn, nI_leI (by omega) (by omega)] at q; omega
      · rw [ej, hgj, nI_eq (by omega) (by omega)] at q2
        rw [ej, hgj]
        refine s_TB_removeFromOrder_56 h hw ht ht hc ?_
        rw [if_pos q2, List.append_nil] at hsn
        rw [nI_1, ← hsn]
        exact ih (j + 1) (by omega) g g1 (by rw [hsn]; exact g2) (fun p hp h1 => g3 p hp (by omega))
      · rw [ej, hgj, nI_eq (by omega) (by omega)] at q2 q3
        rw [ej, hgj]
        exact put _ q2 (by rw [if_neg q3])
      · rw [ej, hgj, nI_eq (by omega) (by omega)] at q2 q3
        rw [ej, hgj]
        exact put _ q2 (by rw [if_pos q3])
  refine s_TB_removeFromOrder_0 h hw ht (mm_inI hc (by omega)) ?_
  rw [e1]
  exact loop n 0 (by omega) f (fun _ _ => rfl) (fun p hp => by simp [rmL] at hp) (fun p hp _ => hO p hp)
theorem c_TB_remove {s n cols : Nat} {L : Nat → List Nat} (hw : mm_sh w) (ht : t < 4) (hcl : f (4 + 12 * t) 0 = nI cols) (hcl2 : cols ≤ 4) (hn : f (4 + 12 * t) 1 = nI n) (hn2 : n ≤ 48) (hs : s < n) (hL : ∀ c, c < cols → (L c).length = n ∧ isO f t c (L c) ∧ ∀ x ∈ L c, x < 48) :
    mm_C E y_TB_remove b_TB_remove 4 none 1 0 0 [mm_rf E (4 + 12 * t), .int (nI s)] w f
      (fun r w' f' => r = none ∧ w' = w ∧ (∀ a, a ≠ 4 + 12 * t → (∀ c, c < cols → a ≠ 7 + 12 * t + c ∧ a ≠ 12 + 12 * t + c) → f' a = f a) ∧ f' (4 + 12 * t) 1 = nI (n - 1) ∧ (∀ j, j ≠ 1 → f' (4 + 12 * t) j = f (4 + 12 * t) j) ∧
        (∀ c, c < cols → ∀ x, tc f' t c x = if x = s then tc f t c (n - 1) else tc f t c x) ∧ ∀ c, c < cols → isO f' t c (rmL (L c) s (n - 1))) := by
  refine mm_start (by decide) rfl (Nat.le_of_ble_eq_true rfl) fun Γ h he => ?_
  have elast : nI n - 1 = nI (n - 1) := by
    have := nI_pred (n - 1)
    rw [show n - 1 + 1 = n by omega] at this
    exact this
  have es := nI_clamp (n := s) (by omega)
  have el := nI_clamp (n := n - 1) (by omega)
  have loop : ∀ d k, k + d = cols → ∀ g : mm_F, (∀ a, (∀ c, c < k → a ≠ 7 + 12 * t + c ∧ a ≠ 12 + 12 * t + c) → g a = f a) → (∀ c, c < k → ∀ x, tc g t c x = if x = s then tc f t c (n - 1) else tc f t c x) → (∀ c, c < k → isO g t c (rmL (L c) s (n - 1))) →
      mm_go E Γ 4 9 [(0, mm_rf E (4 + 12 * t)), (1, .int (nI s)), (2, .int (nI (n - 1))), (3, .int (nI k))] [] w g 0 0 := by
    intro d
    induction d with
    | zero =>
      intro k hk g g1 g2 g3
      have hk' : k = cols := by omega
      subst hk'
      have e0 : g (4 + 12 * t) = f (4 + 12 * t) := g1 _ (fun c _ => by omega)
      refine s_TB_remove_9 (vl0 := 0) (vc0 := 0) (vs0 := 0) (P0 := fun _ _ _ => False) h he (Nat.le_refl _) (Nat.le_refl _) hw ht (fun _ => ?_) (by omega) (by omega) (by omega) (fun q => ?_) (fun q => ?_)
      · refine ⟨rfl, rfl, fun a ha hb => ?_, ?_, fun j hj => ?_, fun c hc x => ?_, fun c hc => ?_⟩
        · rw [mm_up_off _ _ ha]; exact g1 a hb
        · rw [mm_up_eq]
        · rw [mm_up_ne _ _ (by omega), e0]
        · show mm_up _ _ _ _ (7 + 12 * t + c) x = _
          rw [mm_up_ne _ _ (by omega)]
          exact g2 c hc x
        · exact isO_congr (mm_up_off _ _ (by omega)) (g3 c hc)
      · rw [e0, hcl] at q; exact absurd (Int32.le_refl _) q
      · rw [e0, hcl] at q; exact absurd (Int32.le_refl _) q
    | succ d ih =>
      intro k hk g g1 g2 g3
      have e0 : g (4 + 12 * t) = f (4 + 12 * t) := g1 _ (fun c _ => by omega)
      have ek := nI_clamp (n := k) (by omega)
      obtain ⟨l1, l2, l3⟩ := hL k (by omega)
      have hOk : isO g t k (L k) := isO_congr (g1 _ (fun c _ => by omega)) l2
      have hrm := c_TB_removeFromOrder (E := E) (c := k) (s := s) (n := n) hw ht (by omega) (by omega) (by rw [e0]; exact hn) hn2 (by omega) l1 hOk l3
      refine s_TB_remove_9 (vl0 := 0) (vc0 := 0) (vs0 := 0) h he (Nat.le_refl _) (Nat.le_refl _) hw ht (fun q => ?_) (by omega) (by omega) (by omega) (fun q => hrm) (fun q => ?_)
      · rw [e0, hcl, nI_leI (by omega) (by omega)] at q; omega
      · rintro _ _ f1 ⟨rfl, rfl, p1, p2⟩
        refine s_TB_remove_24 h hw ht (mm_inI (by omega) (by omega)) (mm_inI (by omega) (by omega)) (mm_inI (by omega) (by omega)) ?_
        rw [nI_1, ek, es, el]
        refine ih (k + 1) (by omega) _ (fun a ha => ?_) (fun c hc x => ?_) (fun c hc => ?_)
        · rw [mm_up_off _ _ (ha k (by omega)).1, p1 a (ha k (by omega)).2]
          exact g1 a (fun c hc => ha c (by omega))
        · show mm_up f1 (7 + 12 * t + k) s _ (7 + 12 * t + c) x = _
          by_cases hck : c = k
          · subst hck
            have ef : f1 (7 + 12 * t + c) = f (7 + 12 * t + c) := by rw [p1 _ (by omega)]; exact g1 _ (fun c _ => by omega)
            by_cases hxs : x = s
            · subst hxs
              rw [mm_up_eq, if_pos rfl, ef]
            · rw [mm_up_ne _ _ (by omega), if_neg hxs, ef]
          · rw [mm_up_ne _ _ (by omega), p1 _ (by omega)]
            exact g2 c (by omega) x
        · by_cases hck : c = k
          · subst hck
            exact isO_congr (mm_up_off _ _ (by omega)) p2
          · exact isO_congr (by rw [mm_up_off _ _ (by omega)]; exact p1 _ (by omega)) (g3 c (by omega))
  refine s_TB_remove_0 h hw ht ?_
  rw [hn, elast]
  exact loop cols 0 (by omega) f (fun _ _ => rfl) (fun c hc => by omega) (fun c hc => by omega)
/-- what slotOf answers -/
def tb_slot (f : mm_F) (t n : Nat) (key : Int32) : Int32 := if tb_below f t 0 n key < n ∧ tp f t 0 (tb_below f t 0 n key) = key then to f t 0 (tb_below f t 0 n key) else -1
theorem c_TB_slotOf {n : Nat} {key : Int32} (hw : mm_sh w) (ht : t < 4) (hn : f (4 + 12 * t) 1 = nI n) (hn2 : n ≤ 48) (hu : tb_up f t 0 n) :
    mm_C E y_TB_slotOf b_TB_slotOf 3 (some .int) 2 0 0 [mm_rf E (4 + 12 * t), .int key] w f (mm_P (some (.int (tb_slot f t n key))) w f) := by
  refine mm_start (by decide) rfl (Nat.le_of_ble_eq_true rfl) fun Γ h he => ?_
  have hB : tb_below f t 0 n key ≤ n := cn_le _ _
  generalize hb : tb_below f t 0 n key = b at hB
  have hpf := c_TB_placeFrom (E := E) (c := 0) (low := key) hw ht (by omega) hn hn2 hu
  rw [hb] at hpf
  have z37 : ∀ v : Int32, tb_slot f t n key = v → mm_go E Γ 3 37 [(0, mm_rf E (4 + 12 * t)), (1, .int key), (2, .int (nI b))] [.int v] w f 0 0 := fun v e =>
    s_TB_slotOf_37 h he (Nat.le_refl _) (Nat.le_refl _) hw ht (by rw [e]; exact mm_Pr)
  refine s_TB_slotOf_0 (vl0 := 1) (vc0 := 0) (vs0 := 0) h hw ht (by omega) (by omega) (by omega) hpf ?_
  rintro _ _ _ ⟨rfl, rfl, rfl⟩
  by_cases hlt : b < n
  · obtain ⟨q, hq, eq⟩ := hu.1 b hlt
    have hcell := c_TB_cellAt (E := E) hw ht (show 0 < 4 by omega) (show b < 48 by omega) eq hq
    have etp : tp f t 0 b = tc f t 0 q := by show tc f t 0 (to f t 0 b).toNatClampNeg = _; rw [eq, nI_clamp (by omega)]
    refine s_TB_slotOf_6 (vl0 := 0) (vc0 := 0) (vs0 := 0) h hw ht (fun c1 => ?_) (by omega) (by omega) (by omega) (fun c1 => hcell) (fun c1 => ?_)
    · rw [hn, nI_leI (by omega) (by omega)] at c1; omega
    · rintro _ _ _ ⟨rfl, rfl, rfl⟩
      refine s_TB_slotOf_21 h hw ht (fun c2 => ?_) (fun c2 => mm_inI (by omega) (by omega)) (fun c2 => ?_)
      · refine s_TB_slotOf_36 h hw ht (z37 _ ?_)
        unfold tb_slot
        rw [hb, if_neg (fun z => c2 (by rw [← etp]; exact z.2))]
      · refine z37 _ ?_
        unfold tb_slot
        rw [hb, if_pos ⟨hlt, by rw [etp]; exact c2⟩, nI_clamp (by omega)]
  · refine s_TB_slotOf_6 (vl0 := 0) (vc0 := 0) (vs0 := 0) (P0 := fun _ _ _ => False) h hw ht (fun c1 => ?_) (by omega) (by omega) (by omega) (fun c1 => ?_) (fun c1 => ?_)
    · refine s_TB_slotOf_36 h hw ht (z37 _ ?_)
      unfold tb_slot
      rw [hb, if_neg (fun z => hlt z.1)]
    · rw [hn, nI_leI (by omega) (by omega)] at c1; omega
    · rw [hn, nI_leI (by omega) (by omega)] at c1; omega
/-- the row of slot s written into the row at r, from cell o on -/
def cpR (f : mm_F) (t cols s r o : Nat) : mm_F := fun a j => if a = r ∧ o ≤ j ∧ j < o + cols then tc f t (j - o) s else f a j
theorem c_TB_copyRow {c p s cols n o : Nat} (hw : mm_sh w) (ht : t < 4) (hc : c < 4) (hp : p < 48) (hcl : f (4 + 12 * t) 0 = nI cols) (hcl2 : cols ≤ 4) (hs : to f t c p = nI s) (hs2 : s < 48) (hr : mm_run w n) (ho : o + cols ≤ 8) :
    mm_C E y_TB_copyRow b_TB_copyRow 7 none 0 0 0 [mm_rf E (4 + 12 * t), .int (nI c), .int (nI p), mm_rf E (n + 1), .int (nI o)] w f (mm_P none w (cpR f t cols s (n + 1) o)) := by
  refine mm_start (by decide) rfl (Nat.le_of_ble_eq_true rfl) fun Γ h he => ?_
  have hN : 153 ≤ n := hr.1
  have e1 := nI_clamp (n := c) (by omega)
  have e2 := nI_clamp (n := p) (by omega)
  have e3 := nI_clamp (n := s) (by omega)
  have loop : ∀ d k, k + d = cols → mm_go E Γ 7 13 [(0, mm_rf E (4 + 12 * t)), (1, .int (nI c)), (2, .int (nI p)), (3, mm_rf E (n + 1)), (4, .int (nI o)), (5, .int (nI s)), (6, .int (nI k))] [] w (cpR f t k s (n + 1) o) 0 0 := by
    intro d
    induction d with
    | zero =>
      intro k hk
      have hk' : k = cols := by omega
      subst hk'
      have e0 : cpR f t k s (n + 1) o (4 + 12 * t) 0 = nI k := by unfold cpR; rw [if_neg (by omega)]; exact hcl
      refine s_TB_copyRow_13 h he (Nat.le_refl _) (Nat.le_refl _) hw ht hr (fun _ => mm_Pr) (fun q => ?_) (fun q => ?_) (fun q => ?_) (fun q => ?_)
      all_goals (rw [e0] at q; exact absurd (Int32.le_refl _) q)
    | succ d ih =>
      intro k hk
      have e0 : cpR f t k s (n + 1) o (4 + 12 * t) 0 = nI cols := by unfold cpR; rw [if_neg (by omega)]; exact hcl
      have ek := nI_clamp (n := k) (by omega)
      have eo := nI_clamp (n := o + k) (by omega)
      refine s_TB_copyRow_13 h he (Nat.le_refl _) (Nat.le_refl _) hw ht hr (fun q => ?_) (fun q => mm_inI (by omega) (by omega)) (fun q => mm_inI (by omega) (by omega)) (fun q => ?_) (fun q => ?_)
      · rw [e0, nI_leI (by omega) (by omega)] at q; omega
      · rw [nI_add]; exact mm_inI (by omega) (by omega)
      · rw [nI_add, nI_1, ek, e3, eo]
        have : mm_up (cpR f t k s (n + 1) o) (n + 1) (o + k) (cpR f t k s (n + 1) o (7 + 12 * t + k) s) = cpR f t (k + 1) s (n + 1) o := by
          funext a j
          unfold mm_up cpR
          by_cases h1 : a = n + 1 ∧ j = o + k
          · obtain ⟨rfl, rfl⟩ := h1
            rw [if_pos ⟨rfl, rfl⟩, if_neg (by omega), if_pos (by omega)]
            show f (7 + 12 * t + k) s = f (7 + 12 * t + (o + k - o)) s
            rw [show o + k - o = k by omega]
          · rw [if_neg h1]
            by_cases h2 : a = n + 1 ∧ o ≤ j ∧ j < o + k
            · rw [if_pos h2, if_pos (by omega)]
            · rw [if_neg h2, if_neg (by omega)]
        rw [this]
        exact ih (k + 1) (by omega)
  refine s_TB_copyRow_0 h hw ht hr (mm_inI hc (by omega)) (mm_inI hp (by omega)) ?_
  have hs' : f (12 + 12 * t + c) p = nI s := hs
  rw [e1, e2, hs']
  have h0 := loop cols 0 (by omega)
  have : cpR f t 0 s (n + 1) o = f := by
    funext a j
    unfold cpR
    rw [if_neg (by omega)]
  rw [this] at h0
  exact h0
end CTB3
