/-! Constructors of the class: all tables, the plan. -/
section CCP
variable {E : mm_E} {w : mm_W} {f : mm_F}
/-- references while the tables are made: t of them stand -/
def lQ (b s n : Nat) (R0 : Nat → Nat → Nat) (t a : Nat) : Nat → Nat := if a < b then R0 a else if a = b then (fun j => if j < t then b + 1 + s * j else 0) else sh_r a
def rT (_a j : Nat) : Nat := if j = 0 then 3 else 0
def rP (a j : Nat) : Nat := if a = 53 then (if j = 0 then 54 else if j = 5 then 55 else 0) else 0
theorem lQ_next {b s n t a c : Nat} {R0 : Nat → Nat → Nat} (hc : c = b + 1 + s * t) : mm_up (fun a => if a < c then (fun a => if a < c then lQ b s n R0 t a else (fun _ _ => 0 : Nat → Nat → Nat) a) a else sh_r a) b t c a = lQ b s n R0 (t + 1) a := by
  have hbc : b < c := by
    have : b + 1 ≤ b + 1 + s * t := Nat.le_add_right _ _
    omega
  have l : ∀ t a, lQ b s n R0 t a = if a < b then R0 a else if a = b then (fun j => if j < t then b + 1 + s * j else 0) else sh_r a := fun _ _ => rfl
  funext j
  by_cases e : a = b
  · subst e
    rw [l, if_neg (Nat.lt_irrefl _), if_pos rfl]
    by_cases q : j = t
    · subst q
      rw [mm_up_eq]
      show c = if j < j + 1 then a + 1 + s * j else 0
      rw [if_pos (by omega), hc]
    · rw [mm_up_ne _ _ (fun z => q z.2)]
      show (if a < c then (if a < c then lQ a s n R0 t a else fun _ => 0) else sh_r a) j = if j < t + 1 then a + 1 + s * j else 0
      rw [if_pos hbc, if_pos hbc, l, if_neg (Nat.lt_irrefl _), if_pos rfl]
      show (if j < t then a + 1 + s * j else 0) = _
      by_cases q2 : j < t
      · rw [if_pos q2, if_pos (by omega)]
      · rw [if_neg q2, if_neg (by omega)]
  · rw [mm_up_ne _ _ (fun z => e z.1)]
    show (if a < c then (if a < c then lQ b s n R0 t a else fun _ => 0) else sh_r a) j = _
    rw [l, l]
    by_cases e2 : a < b
    · rw [if_pos (by omega), if_pos (by omega), if_pos e2, if_pos e2]
    · rw [if_neg e2, if_neg e, if_neg e2, if_neg e]
      by_cases e3 : a < c
      · rw [if_pos e3, if_pos e3]
      · rw [if_neg e3]
theorem c_TS_init (hb : blk w w f f 2 3 (fun _ _ => 0)) : mm_C E y_TS_init b_TS_init 2 none 2 49 1608 [mm_rf E 2] w f (fun r w' f' => r = none ∧ blk w w' f f' 2 52 sh_r) := by
  refine mm_start (by decide) rfl (Nat.le_of_ble_eq_true rfl) fun Γ h he => ?_
  have hn := hb.2.1
  have loop : ∀ d t, t + d = 4 → ∀ w1 f1, blk w w1 f f1 2 (4 + 12 * t) (lQ 3 12 4 rT t) → mm_go E Γ 2 14 [(0, mm_rf E 2), (1, .int (nI t))] [] w1 f1 (1 + 12 * t) (4 + 401 * t) := by
    intro d
    induction d with
    | zero =>
      intro t ht w1 f1 B
      have e : t = 4 := by omega
      subst e
      refine mm_iload_n h d_TS_init_14 1 rfl rfl ?_
      refine mm_iconst (v := 4) h d_TS_init_15 rfl ?_
      refine mm_icmp_ge h d_TS_init_16 (tgt := 38) (by decide) (fun _ => ?_) (fun q => absurd (by decide) q)
      refine mm_vret h he d_TS_init_38 (by omega) (by omega) ⟨rfl, B.to fun a h1 h2 => ?_⟩
      unfold lQ
      by_cases e2 : a < 3
      · rw [if_pos e2, show a = 2 by omega, shQ_eq (by omega) (by omega)]
        funext j
        rfl
      · rw [if_neg e2]
        by_cases e3 : a = 3
        · rw [if_pos e3, e3, shQ_eq (by omega) (by omega)]
          funext j
          show (if j < 4 then 3 + 1 + 12 * j else 0) = (if j < 4 then 4 + 12 * j else 0)
          split <;> omega
        · rw [if_neg e3]
    | succ d ih =>
      intro t ht w1 f1 B
      have n1 := B.2.1
      have kT : sh_k (4 + 12 * t) = 2 ∧ sh_l (4 + 12 * t) = 0 := (by decide +kernel : ∀ t, t < 4 → sh_k (4 + 12 * t) = 2 ∧ sh_l (4 + 12 * t) = 0) t (by omega)
      refine mm_iload_n h d_TS_init_14 1 rfl rfl ?_
      refine mm_iconst (v := 4) h d_TS_init_15 rfl ?_
      refine mm_icmp_ge h d_TS_init_16 (tgt := 38) (by decide) (fun q => ?_) (fun _ => ?_)
      · have := (nI_leI (a := 4) (b := t) (by omega) (by omega)).mp q; omega
      refine mm_aload_n h d_TS_init_19 0 rfl rfl ?_
      refine mm_getr (r := 3) h fl_TS_11 rfl (B.is (by omega) (by omega) (by omega) rfl) (by rw [B.re (by omega) (by omega)]; rfl) (by omega) d_TS_init_20 ?_
      refine mm_iload_n h d_TS_init_23 1 rfl rfl ?_
      refine mm_newc (k := 2) (N := 5) (q := _) h rfl cl_TS_9 in_TB iz_TB (by omega) (by omega) (by omega) d_TS_init_24 ?_
      have B1 := B.then (blk_new (w := w1) (f := f1) n1 kT.1 kT.2) (by omega) (Nat.le_refl _)
      rw [n1]
      generalize mm_new w1 2 0 = w2 at B1
      generalize mm_f0 w1 f1 = f2 at B1
      refine mm_dup h d_TS_init_27 rfl ?_
      have F := (show blk w2 w2 f2 f2 (4 + 12 * t) (5 + 12 * t) (fun _ _ => 0) from ⟨by omega, by rw [B1.2.1]; omega, fun _ _ => ⟨rfl, rfl, rfl, rfl⟩, fun a h1 h2 => by
        have e : a = 4 + 12 * t := by omega
        subst e
        obtain ⟨p1, p2, p3, p4⟩ := B1.2.2.2 (4 + 12 * t) (by omega) (by omega)
        exact ⟨p1, p2, p3.trans (if_neg (by omega)), p4⟩⟩)
      refine mm_callIN (As := []) (rest := [mm_rf E (4 + 12 * t), .int (nI t), mm_rf E 3]) h (c_TB_init (t := t) (by omega) F) rfl ci_TS_17 ii_TB_init cm_TB_init (by omega) (by omega) (by omega) rfl rfl (Nat.le_of_ble_eq_true rfl) d_TS_init_28 ?_
      rintro _ w3 f3 ⟨rfl, G⟩
      have B2 := B1.then G (by omega) (by omega)
      refine mm_aast h 4 (k := 104) (n := 4) (kv := 2) (q := _) rfl rfl rfl (fun _ => rfl) (B2.ar (by omega) (by omega) (by omega) rfl rfl) (B2.is (by omega) (by omega) (by omega) kT.1) (mm_inI (by omega) (by omega)) d_TS_init_31 ?_
      rw [nI_clamp (by omega)]
      have B3 := B2.put (a := 3) (j := t) (r := 4 + 12 * t) (by omega) (by omega)
      refine mm_iinc (v := nI (t + 1)) (lv' := [(1, .int (nI (t + 1))), (0, mm_rf E 2)]) h d_TS_init_32 1 rfl (nI_1 t) (by decide) rfl ?_
      refine mm_goto h d_TS_init_35 (tgt := 14) (by decide) ?_
      refine mm_sub [1, 0] rfl ?_
      refine mm_more (ca' := 1 + 12 * (t + 1)) (sa' := 4 + 401 * (t + 1)) (by omega) (by omega) ?_
      refine ih (t + 1) (by omega) _ _ ((B3.to fun a h1 h2 => ?_).cast (by omega))
      exact lQ_next (by omega)
  refine mm_aload_n h d_TS_init_0 0 rfl rfl ?_
  refine mm_obj h oi_TS nw_23 nw_24 (by omega) (Nat.le_of_ble_eq_true rfl) d_TS_init_1 ?_
  refine mm_aload_n h d_TS_init_4 0 rfl rfl ?_
  refine mm_iconst (v := 4) h d_TS_init_5 rfl ?_
  refine mm_anew h 4 (k := 104) (N := 4) (C := "PlannedTables$Table") rfl rfl cl_TS_9 (List.mem_of_getElem? (i := 0) rfl) (fun _ => rfl) (by decide) rfl (by decide) (by omega) (by omega) (by omega) d_TS_init_6 ?_
  have B := hb.then (blk_new (w := w) (f := f) (k := 104) (l := 4) hn rfl rfl) (by omega) (Nat.le_refl _)
  refine mm_putr h fl_TS_11 (Or.inr ⟨rfl, he.2.2.2⟩) rfl rfl rfl (B.is (by omega) (by omega) (by omega) rfl) (by omega) d_TS_init_9 ?_
  have B2 := B.put (a := 2) (j := 0) (r := mm_n w) (by omega) (by omega)
  refine mm_iconst (v := 0) h d_TS_init_12 rfl ?_
  refine mm_istore_n (lv' := [(1, .int 0), (0, mm_rf E 2)]) h d_TS_init_13 rfl (by decide) rfl ?_
  refine mm_sub [1, 0] rfl ?_
  refine loop 4 0 (by omega) _ _ (B2.to fun a h1 h2 => ?_)
  rw [hn]
  funext j
  unfold mm_up lQ
  by_cases e : a = 2
  · subst e
    by_cases q : j = 0
    · rw [if_pos ⟨rfl, q⟩, if_pos (by omega)]
      exact (if_pos q).symm
    · rw [if_neg (fun z => q z.2), if_pos (by omega)]
      refine Eq.trans ?_ (if_neg q).symm
      show (if 2 < 3 then (fun _ => 0 : Nat → Nat) else fun _ => 0) j = 0
      split <;> rfl
  · rw [if_neg (fun z => e z.1), if_neg (by omega), if_pos (by omega)]
    show (if a < 3 then (fun _ => 0 : Nat → Nat) else fun _ => 0) j = if j < 0 then _ else 0
    rw [if_neg (show ¬ j < 0 by omega)]
    split <;> rfl
theorem c_PN_init (hb : blk w w f f 53 54 (fun _ _ => 0)) : mm_C E y_PN_init b_PN_init 2 none 2 80 781 [mm_rf E 53] w f (fun r w' f' => r = none ∧ blk w w' f f' 53 134 sh_r) := by
  refine mm_start (by decide) rfl (Nat.le_of_ble_eq_true rfl) fun Γ h he => ?_
  have hn := hb.2.1
  have loop : ∀ d t, t + d = 39 → ∀ w1 f1, blk w w1 f f1 53 (56 + 2 * t) (lQ 55 2 39 rP t) → mm_go E Γ 2 23 [(0, mm_rf E 53), (1, .int (nI t))] [] w1 f1 (2 + 2 * t) (79 + 18 * t) := by
    intro d
    induction d with
    | zero =>
      intro t ht w1 f1 B
      have e : t = 39 := by omega
      subst e
      refine mm_iload_n h d_PN_init_23 1 rfl rfl ?_
      refine mm_bipush (v := 39) h d_PN_init_24 rfl ?_
      refine mm_icmp_ge h d_PN_init_26 (tgt := 48) (by decide) (fun _ => ?_) (fun q => absurd (by decide) q)
      refine mm_vret h he d_PN_init_48 (by omega) (by omega) ⟨rfl, B.to fun a h1 h2 => ?_⟩
      unfold lQ
      by_cases e2 : a < 55
      · rw [if_pos e2, shQ_eq (by omega) (by omega)]
        funext j
        unfold shQ
        rw [if_neg (by omega), if_neg (by omega), if_neg (by omega), if_neg (by omega)]
        by_cases e3 : a = 53
        · rw [if_pos e3]; exact if_pos e3
        · rw [if_neg e3, if_neg (by omega), if_pos (by omega)]; exact if_neg e3
      · rw [if_neg e2]
        by_cases e3 : a = 55
        · rw [if_pos e3, e3, shQ_eq (by omega) (by omega)]
          funext j
          show (if j < 39 then 55 + 1 + 2 * j else 0) = (if j < 39 then 56 + 2 * j else 0)
          split <;> omega
        · rw [if_neg e3]
    | succ d ih =>
      intro t ht w1 f1 B
      have n1 := B.2.1
      have kT : sh_k (56 + 2 * t) = 4 ∧ sh_l (56 + 2 * t) = 0 := (by decide +kernel : ∀ t, t < 39 → sh_k (56 + 2 * t) = 4 ∧ sh_l (56 + 2 * t) = 0) t (by omega)
      refine mm_iload_n h d_PN_init_23 1 rfl rfl ?_
      refine mm_bipush (v := 39) h d_PN_init_24 rfl ?_
      refine mm_icmp_ge h d_PN_init_26 (tgt := 48) (by decide) (fun q => ?_) (fun _ => ?_)
      · have := (nI_leI (a := 39) (b := t) (by omega) (by omega)).mp q; omega
      refine mm_aload_n h d_PN_init_29 0 rfl rfl ?_
      refine mm_getr (r := 55) h fl_PN_17 rfl (B.is (by omega) (by omega) (by omega) rfl) (by rw [B.re (by omega) (by omega)]; rfl) (by omega) d_PN_init_30 ?_
      refine mm_iload_n h d_PN_init_33 1 rfl rfl ?_
      refine mm_newc (k := 4) (N := 10) (q := _) h rfl cl_PN_15 in_SP iz_SP (by omega) (by omega) (by omega) d_PN_init_34 ?_
      have B1 := B.then (blk_new (w := w1) (f := f1) n1 kT.1 kT.2) (by omega) (Nat.le_refl _)
      rw [n1]
      generalize mm_new w1 4 0 = w2 at B1
      generalize mm_f0 w1 f1 = f2 at B1
      refine mm_dup h d_PN_init_37 rfl ?_
      have F := (show blk w2 w2 f2 f2 (56 + 2 * t) (57 + 2 * t) (fun _ _ => 0) from ⟨by omega, by rw [B1.2.1]; omega, fun _ _ => ⟨rfl, rfl, rfl, rfl⟩, fun a h1 h2 => by
        have e : a = 56 + 2 * t := by omega
        subst e
        obtain ⟨p1, p2, p3, p4⟩ := B1.2.2.2 (56 + 2 * t) (by omega) (by omega)
        exact ⟨p1, p2, p3.trans (if_neg (by omega)), p4⟩⟩)
      refine mm_callIN (As := []) (rest := [mm_rf E (56 + 2 * t), .int (nI t), mm_rf E 55]) h (c_SP_init (s := t) (by omega) F) rfl ci_PN_21 ii_SP_init cm_SP_init (by omega) (by omega) (by omega) rfl rfl (Nat.le_of_ble_eq_true rfl) d_PN_init_38 ?_
      rintro _ w3 f3 ⟨rfl, G⟩
      have B2 := B1.then G (by omega) (by omega)
      refine mm_aast h 5 (k := 105) (n := 39) (kv := 4) (q := _) rfl rfl rfl (fun _ => rfl) (B2.ar (by omega) (by omega) (by omega) rfl rfl) (B2.is (by omega) (by omega) (by omega) kT.1) (mm_inI (by omega) (by omega)) d_PN_init_41 ?_
      rw [nI_clamp (by omega)]
      have B3 := B2.put (a := 55) (j := t) (r := 56 + 2 * t) (by omega) (by omega)
      refine mm_iinc (v := nI (t + 1)) (lv' := [(1, .int (nI (t + 1))), (0, mm_rf E 53)]) h d_PN_init_42 1 rfl (nI_1 t) (by decide) rfl ?_
      refine mm_goto h d_PN_init_45 (tgt := 23) (by decide) ?_
      refine mm_sub [1, 0] rfl ?_
      refine mm_more (ca' := 2 + 2 * (t + 1)) (sa' := 79 + 18 * (t + 1)) (by omega) (by omega) ?_
      refine ih (t + 1) (by omega) _ _ ((B3.to fun a h1 h2 => ?_).cast (by omega))
      exact lQ_next (by omega)
  refine mm_aload_n h d_PN_init_0 0 rfl rfl ?_
  refine mm_obj h oi_PN nw_23 nw_24 (by omega) (Nat.le_of_ble_eq_true rfl) d_PN_init_1 ?_
  refine mm_aload_n h d_PN_init_4 0 rfl rfl ?_
  refine mm_bipush (v := 40) h d_PN_init_5 rfl ?_
  refine mm_newa (atype := .int) h 0 (k := 100) (N := 40) rfl rfl rfl ac_int (fun _ => rfl) (by decide) rfl (by decide) (by omega) (by omega) (by omega) d_PN_init_7 (fun U c z => z) ?_
  have B := hb.then (blk_new (w := w) (f := f) (k := 100) (l := 40) hn rfl rfl) (by omega) (Nat.le_refl _)
  refine mm_putr h fl_PN_9 (Or.inr ⟨rfl, he.2.2.2⟩) rfl rfl rfl (B.is (by omega) (by omega) (by omega) rfl) (by omega) d_PN_init_9 ?_
  have B2 := B.put (a := 53) (j := 0) (r := mm_n w) (by omega) (by omega)
  rw [hn] at B2 ⊢
  generalize mm_sr (mm_new w 100 40) 53 0 54 = w2 at B2
  generalize mm_f0 w f = f2 at B2
  have n2 := B2.2.1
  refine mm_aload_n h d_PN_init_12 0 rfl rfl ?_
  refine mm_bipush (v := 39) h d_PN_init_13 rfl ?_
  refine mm_anew h 5 (k := 105) (N := 39) (C := "PlannedTables$Step") rfl rfl cl_PN_15 (List.mem_of_getElem? (i := 1) rfl) (fun _ => rfl) (by decide) rfl (by decide) (by omega) (by omega) (by omega) d_PN_init_15 ?_
  have B3 := B2.then (blk_new (w := w2) (f := f2) (k := 105) (l := 39) n2 rfl rfl) (by omega) (Nat.le_refl _)
  refine mm_putr h fl_PN_17 (Or.inr ⟨rfl, he.2.2.2⟩) rfl rfl rfl (B3.is (by omega) (by omega) (by omega) rfl) (by omega) d_PN_init_18 ?_
  have B4 := B3.put (a := 53) (j := 5) (r := mm_n w2) (by omega) (by omega)
  refine mm_iconst (v := 0) h d_PN_init_21 rfl ?_
  refine mm_istore_n (lv' := [(1, .int 0), (0, mm_rf E 53)]) h d_PN_init_22 rfl (by decide) rfl ?_
  refine mm_sub [1, 0] rfl ?_
  refine loop 39 0 (by omega) _ _ (B4.to fun a h1 h2 => ?_)
  rw [n2]
  funext j
  have u : ∀ (Q : Nat → Nat → Nat) (i r : Nat), mm_up Q 53 i r a j = if a = 53 ∧ j = i then r else Q a j := fun _ _ _ => rfl
  rw [u]
  unfold lQ
  by_cases e5 : a = 53 ∧ j = 5
  · rw [if_pos e5, if_pos (by omega)]
    show _ = if a = 53 then (if j = 0 then 54 else if j = 5 then 55 else 0) else 0
    rw [if_pos e5.1, if_neg (by omega), if_pos e5.2]
  · rw [if_neg e5]
    by_cases e55 : a = 55
    · rw [if_neg (show ¬ a < 55 by omega), if_neg (show ¬ a < 55 by omega), if_pos e55]
      show 0 = if j < 0 then _ else 0
      rw [if_neg (show ¬ j < 0 by omega)]
    · rw [if_pos (show a < 55 by omega), if_pos (show a < 55 by omega), u]
      by_cases e0 : a = 53 ∧ j = 0
      · rw [if_pos e0]
        show _ = if a = 53 then (if j = 0 then 54 else if j = 5 then 55 else 0) else 0
        rw [if_pos e0.1, if_pos e0.2]
      · rw [if_neg e0]
        have z : (if a < 54 then (fun _ _ => 0 : Nat → Nat → Nat) a else (fun _ _ => 0 : Nat → Nat → Nat) a) j = 0 := by split <;> rfl
        rw [z]
        show _ = if a = 53 then (if j = 0 then 54 else if j = 5 then 55 else 0) else 0
        by_cases e3 : a = 53
        · rw [if_pos e3, if_neg (by omega), if_neg (by omega)]
        · rw [if_neg e3]
end CCP
