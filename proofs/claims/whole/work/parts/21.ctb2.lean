/-! More contracts of a table's methods: the order of a column as a list of slots. -/
def lx (f : mm_F) (t c a b : Nat) : Bool := decide (tc f t c a < tc f t c b) || (decide (tc f t c a = tc f t c b) && decide (tc f t 0 a < tc f t 0 b))
/-- the order array of column c holds the list -/
def isO (f : mm_F) (t c : Nat) (L : List Nat) : Prop := ∀ p (h : p < L.length), to f t c p = nI L[p]
section CTB2
variable {E : mm_E} {w : mm_W} {f : mm_F} {t : Nat}
theorem c_TB_comesBefore {c a b : Nat} (hw : mm_sh w) (ht : t < 4) (hc : c < 4) (ha : a < 48) (hb : b < 48) :
    mm_C E y_TB_comesBefore b_TB_comesBefore 6 (some .boolean) 0 0 0 [mm_rf E (4 + 12 * t), .int (nI c), .int (nI a), .int (nI b)] w f (mm_P (some (.int (bI (lx f t c a b)))) w f) := by
  refine mm_start (by decide) rfl (Nat.le_of_ble_eq_true rfl) fun Γ h he => ?_
  have e1 := nI_clamp (n := c) (by omega)
  have e2 := nI_clamp (n := a) (by omega)
  have e3 := nI_clamp (n := b) (by omega)
  have z58 : ∀ (v : Bool) (x4 x5 : Int32), lx f t c a b = v → mm_go E Γ 6 58 [(0, mm_rf E (4 + 12 * t)), (1, .int (nI c)), (2, .int (nI a)), (3, .int (nI b)), (4, .int x4), (5, .int x5)] [.int (bI v)] w f 0 0 := fun v x4 x5 e =>
    s_TB_comesBefore_58 h he (Nat.le_refl _) (Nat.le_refl _) hw ht (by rw [e]; exact mm_Pr) (mm_b2 (bI_01 v))
  refine s_TB_comesBefore_0 h hw ht (mm_inI hc (by omega)) (mm_inI ha (by omega)) (mm_inI hb (by omega)) (fun c1 => ?_) (fun c1 c2 => ?_) (fun c1 c2 c3 => ?_) (fun c1 c2 c3 => ?_)
  · refine s_TB_comesBefore_53 h hw ht (z58 true _ _ ?_)
    rw [e1, e2, e3] at c1
    simp [lx, c1]
  · refine s_TB_comesBefore_57 h hw ht (z58 false _ _ ?_)
    rw [e1, e2, e3] at c1 c2
    simp only [lx, Bool.or_eq_false_iff, Bool.and_eq_false_iff, decide_eq_false_iff_not]
    exact ⟨c1, Or.inl c2⟩
  · refine s_TB_comesBefore_57 h hw ht (z58 false _ _ ?_)
    rw [e1, e2, e3] at c1
    rw [e2, e3] at c3
    simp only [lx, Bool.or_eq_false_iff, Bool.and_eq_false_iff, decide_eq_false_iff_not]
    exact ⟨c1, Or.inr (Int32.not_lt.mpr c3)⟩
  · refine s_TB_comesBefore_53 h hw ht (z58 true _ _ ?_)
    rw [e1, e2, e3] at c1 c2
    rw [e2, e3] at c3
    simp only [lx, Bool.or_eq_true, Bool.and_eq_true, decide_eq_true_eq]
    exact Or.inr ⟨c2, Int32.not_le.mp c3⟩
/-- where the insertion ends, coming from place n -/
def pio (f : mm_F) (t c s : Nat) (L : List Nat) : Nat → Nat
  | 0 => 0
  | p + 1 => if lx f t c s (L.getD p 0) then pio f t c s L p else p + 1
theorem pio_le {c s : Nat} {L : List Nat} : ∀ n, pio f t c s L n ≤ n
  | 0 => Nat.le_refl _
  | n + 1 => by
    have := pio_le (c := c) (s := s) (L := L) n
    unfold pio
    split <;> omega
/-- the list with s put in at place k -/
def insL (L : List Nat) (k s : Nat) : List Nat := L.take k ++ s :: L.drop k
theorem c_TB_putInOrder {c s n : Nat} {L : List Nat} (hw : mm_sh w) (ht : t < 4) (hc : c < 4) (hs : s < 48) (hn : f (4 + 12 * t) 1 = nI n) (hn2 : n < 48) (hL : L.length = n) (hO : isO f t c L) (hL2 : ∀ x ∈ L, x < 48) :
    mm_C E y_TB_putInOrder b_TB_putInOrder 5 none 1 0 0 [mm_rf E (4 + 12 * t), .int (nI c), .int (nI s)] w f
      (fun r w' f' => r = none ∧ w' = w ∧ (∀ a, a ≠ 12 + 12 * t + c → f' a = f a) ∧ isO f' t c (insL L (pio f t c s L n) s)) := by
  refine mm_start (by decide) rfl (Nat.le_of_ble_eq_true rfl) fun Γ h he => ?_
  have e1 := nI_clamp (n := c) (by omega)
  have loop : ∀ j, j ≤ n → pio f t c s L n = pio f t c s L j → ∀ g : mm_F, (∀ a, a ≠ 12 + 12 * t + c → g a = f a) → (∀ p (hp : p < L.length), p < j → to g t c p = nI L[p]) → (∀ p (hp : p < L.length), j ≤ p → to g t c (p + 1) = nI L[p]) →
      mm_go E Γ 5 13 [(0, mm_rf E (4 + 12 * t)), (1, .int (nI c)), (2, .int (nI s)), (3, mm_rf E (12 + 12 * t + c)), (4, .int (nI j))] [] w g 0 0 := by
    intro j
    induction j with
    | zero =>
      intro hj hk g g1 g2 g3
      refine s_TB_putInOrder_13 (vl0 := 0) (vc0 := 0) (vs0 := 0) (P0 := fun _ _ _ => False) h hw ht ht hc (fun _ => ?_) (fun q => absurd (by decide) q) (by omega) (by omega) (by omega) (fun q => absurd (by decide) q) (fun q => absurd (by decide) q)
      refine s_TB_putInOrder_49 h he (Nat.le_refl _) (Nat.le_refl _) hw ht ht hc (mm_inI (by omega) (by omega)) ?_
      refine ⟨rfl, rfl, fun a ha => by rw [mm_up_off _ _ ha]; exact g1 a ha, ?_⟩
      rw [hk]
      intro p hp
      unfold pio insL at hp ⊢
      rw [List.take_zero, List.drop_zero, List.nil_append] at hp
      show mm_up g (12 + 12 * t + c) (nI 0).toNatClampNeg (nI s) (12 + 12 * t + c) p = _
      rw [nI_clamp (by omega)]
      cases p with
      | zero => rw [mm_up_eq]; rfl
      | succ p =>
        rw [mm_up_ne _ _ (by omega)]
        simp only [List.take_zero, List.drop_zero, List.nil_append, List.getElem_cons_succ]
        exact g3 p (by simpa using hp) (by omega)
    | succ j ih =>
      intro hj hk g g1 g2 g3
      have hjl : j < L.length := by omega
      have hLj : L[j] < 48 := hL2 _ (List.getElem_mem hjl)
      have e2 : nI (j + 1) - 1 = nI j := nI_pred j
      have e3 := nI_clamp (n := j) (by omega)
      have e4 := nI_clamp (n := j + 1) (by omega)
      have hgj : g (12 + 12 * t + c) j = nI L[j] := g2 j hjl (by omega)
      have hlx : ∀ a b, lx g t c a b = lx f t c a b := fun a b => by
        unfold lx tc
        rw [g1 (7 + 12 * t + c) (by omega), g1 (7 + 12 * t + 0) (by omega)]
      have hgd : L.getD j 0 = L[j] := by rw [List.getD_eq_getElem?_getD, List.getElem?_eq_getElem hjl]; rfl
      refine s_TB_putInOrder_13 (vl0 := 0) (vc0 := 0) (vs0 := 0) (P0 := mm_P (some (.int (bI (lx f t c s L[j])))) w g) h hw ht ht hc (fun q => absurd q (nI_nle (by omega) (by omega))) (fun _ => ?_) (by omega) (by omega) (by omega) (fun _ => ?_) (fun _ => ?_)
      · rw [e2]; exact mm_inI (by omega) (by omega)
      · rw [e2, e3, hgj, ← hlx]
        exact c_TB_comesBefore hw ht hc hs hLj
      · rintro _ _ _ ⟨rfl, rfl, rfl⟩
        refine s_TB_putInOrder_30 h hw ht ht hc (fun q => ?_) (fun q => ?_) (fun q => ?_) (fun q => ?_)
        · have hb : lx f t c s L[j] = false := by
            cases hb : lx f t c s L[j]
            · rfl
            · rw [hb] at q; exact absurd q (by decide)
          have hk2 : pio f t c s L n = j + 1 := by
            rw [hk]
            unfold pio
            rw [hgd, hb]
            rfl
          refine s_TB_putInOrder_49 h he (Nat.le_refl _) (Nat.le_refl _) hw ht ht hc (mm_inI (by omega) (by omega)) ?_
          refine ⟨rfl, rfl, fun a ha => by rw [mm_up_off _ _ ha]; exact g1 a ha, ?_⟩
          rw [hk2]
          intro p hp
          show mm_up _ (12 + 12 * t + c) (nI (j + 1)).toNatClampNeg (nI s) (12 + 12 * t + c) p = _
          rw [e4]
          have hlen : (L.take (j + 1)).length = j + 1 := by rw [List.length_take]; omega
          unfold insL at hp ⊢
          by_cases h1 : p < j + 1
          · rw [mm_up_ne _ _ (by omega), List.getElem_append_left (by omega), List.getElem_take]
            exact g2 p (by omega) h1
          · by_cases h2 : p = j + 1
            · subst h2
              rw [mm_up_eq, List.getElem_append_right (by omega)]
              simp [hlen]
            · rw [mm_up_ne _ _ (by omega), List.getElem_append_right (by omega)]
              have hpl : p < L.length + 1 := by
                rw [List.length_append, List.length_cons, List.length_drop, hlen] at hp
                omega
              obtain ⟨p', rfl⟩ : ∃ p', p = p' + 1 := ⟨p - 1, by omega⟩
              have hx := g3 p' (by omega) (by omega)
              have hidx : p' + 1 - (L.take (j + 1)).length = (p' - (j + 1)) + 1 := by rw [hlen]; omega
              simp only [hidx, List.getElem_cons_succ, List.getElem_drop]
              have : j + 1 + (p' - (j + 1)) = p' := by omega
              simp only [this]
              exact hx
        · rw [e2]; exact mm_inI (by omega) (by omega)
        · exact mm_inI (by omega) (by omega)
        · have hb : lx f t c s L[j] = true := by
            cases hb : lx f t c s L[j]
            · rw [hb] at q; exact absurd rfl q
            · rfl
          have e5 : nI (j + 1) + (-1) = nI j := by rw [← Int32.sub_eq_add_neg]; exact e2
          rw [e5, e4, e2, e3]
          refine ih (by omega) ?_ _ (fun a ha => by rw [mm_up_off _ _ ha]; exact g1 a ha) (fun p hp h1 => ?_) (fun p hp h1 => ?_)
          · rw [hk]
            show (if lx f t c s (L.getD j 0) then pio f t c s L j else j + 1) = _
            rw [hgd, hb]
            rfl
          · show mm_up _ _ _ _ (12 + 12 * t + c) p = _
            rw [mm_up_ne _ _ (by omega)]
            exact g2 p hp (by omega)
          · show mm_up _ _ _ _ (12 + 12 * t + c) (p + 1) = _
            by_cases h2 : p = j
            · subst h2
              rw [mm_up_eq]
              exact hgj
            · rw [mm_up_ne _ _ (by omega)]
              exact g3 p hp (by omega)
  refine s_TB_putInOrder_0 h hw ht (mm_inI hc (by omega)) ?_
  rw [e1, hn]
  exact loop n (Nat.le_refl _) rfl f (fun _ _ => rfl) (fun p hp _ => hO p hp) (fun p hp h1 => by omega)
end CTB2
