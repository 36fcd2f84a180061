/-! Constructors: the class, a run; then the class's run. -/
section CCR
variable {E : mm_E} {w : mm_W} {f : mm_F}
/-- the last object of a block stands alone -/
theorem blk.last {w0 w : mm_W} {f0 f : mm_F} {a0 a : Nat} {Q : Nat → Nat → Nat} (h : blk w0 w f0 f a0 (a + 1) Q) (ha : a0 ≤ a) (hq : Q a = fun _ => 0) : blk w w f f a (a + 1) (fun _ _ => 0) :=
  ⟨by omega, h.2.1, fun _ _ => ⟨rfl, rfl, rfl, rfl⟩, fun x h1 h2 => by
    have e : x = a := by omega
    subst e
    obtain ⟨p1, p2, p3, p4⟩ := h.2.2.2 x ha (by omega)
    exact ⟨p1, p2, p3.trans hq, p4⟩⟩
def prv (i : Nat) : Nat := ([2, 52, 53, 134][i]?).getD 0
def pr : Nat → Nat → Nat
  | 0, _ => 0
  | i + 1, j => if j = i then prv i else pr i j
def ptQ (i a : Nat) : Nat → Nat := if a = 1 then pr i else sh_r a
theorem ptQ_next {c i r a : Nat} {Q : Nat → Nat → Nat} (ha : 1 ≤ a) (h1 : 1 < c) (hQ : ∀ a, 1 ≤ a → a < c → Q a = ptQ i a) (hr : prv i = r) : mm_up (fun a => if a < c then Q a else sh_r a) 1 i r a = ptQ (i + 1) a := by
  funext j
  have p : ∀ i a, ptQ i a = if a = 1 then pr i else sh_r a := fun _ _ => rfl
  by_cases e : a = 1
  · subst e
    rw [p, if_pos rfl]
    show (if 1 = 1 ∧ j = i then r else (if 1 < c then Q 1 else sh_r 1) j) = if j = i then prv i else pr i j
    rw [if_pos h1, hQ 1 (by omega) h1, p, if_pos rfl]
    by_cases q : j = i
    · rw [if_pos ⟨rfl, q⟩, if_pos q, hr]
    · rw [if_neg (fun z => q z.2), if_neg q]
  · rw [mm_up_ne _ _ (fun z => e z.1), p, if_neg e]
    show (if a < c then Q a else sh_r a) j = _
    by_cases q : a < c
    · rw [if_pos q, hQ a ha q, p, if_neg e]
    · rw [if_neg q]
theorem c_PT_init (hb : blk w w f f 1 2 (fun _ _ => 0)) : mm_C E y_PT_init b_PT_init 1 none 3 134 2469 [mm_rf E 1] w f (fun r w' f' => r = none ∧ blk w w' f f' 1 136 sh_r) := by
  refine mm_start (by decide) rfl (Nat.le_of_ble_eq_true rfl) fun Γ h he => ?_
  have hn := hb.2.1
  refine mm_aload_n h d_PT_init_0 0 rfl rfl ?_
  refine mm_obj h oi_PT nw_23 nw_24 (by omega) (Nat.le_of_ble_eq_true rfl) d_PT_init_1 ?_
  -- the tables
  refine mm_aload_n h d_PT_init_4 0 rfl rfl ?_
  refine mm_newc (k := 1) (N := 2) (q := _) h rfl cl_PT_9 in_TS iz_TS (by omega) (by omega) (by omega) d_PT_init_5 ?_
  have A1 := hb.then (blk_new (w := w) (f := f) (k := 1) (l := 0) hn rfl rfl) (by omega) (Nat.le_refl _)
  rw [hn]
  generalize mm_new w 1 0 = w1 at A1 ⊢
  generalize mm_f0 w f = f1 at A1 ⊢
  refine mm_dup h d_PT_init_8 rfl ?_
  refine mm_callI (As := []) (rest := [mm_rf E 2, mm_rf E 1]) h (c_TS_init (A1.last (by omega) (if_neg (by omega)))) rfl ci_PT_11 ii_TS_init cm_TS_init (by omega) (by omega) (by omega) rfl rfl (Nat.le_of_ble_eq_true rfl) d_PT_init_9 ?_
  rintro _ w2 f2 ⟨rfl, G1⟩
  have A2 := A1.then G1 (by omega) (by omega)
  refine mm_putr (r := 2) h fl_PT_12 (Or.inr ⟨rfl, he.2.2.2⟩) rfl rfl rfl (A2.is (by omega) (by omega) (by omega) rfl) (by omega) d_PT_init_12 ?_
  have A3 := (A2.put (a := 1) (j := 0) (r := 2) (by omega) (by omega)).to (Q' := ptQ 1) fun a h1 _ => ptQ_next (i := 0) h1 (by omega) (fun a h1 h2 => by
    have e : a = 1 := by omega
    subst e
    show (if 1 < 2 then (fun _ => 0 : Nat → Nat) else fun _ => 0) = _
    rw [if_pos (by omega)]
    rfl) rfl
  generalize mm_sr w2 1 0 2 = w3 at A3 ⊢
  have n3 := A3.2.1
  -- what is staged
  refine mm_aload_n h d_PT_init_15 0 rfl rfl ?_
  refine mm_iconst (v := 4) h d_PT_init_16 rfl ?_
  refine mm_newa (atype := .int) h 0 (k := 100) (N := 4) rfl rfl rfl ac_int (fun _ => rfl) (by decide) rfl (by decide) (by omega) (by omega) (by omega) d_PT_init_17 (fun U c z => z) ?_
  have A4 := A3.then (blk_new (w := w3) (f := f2) (k := 100) (l := 4) n3 rfl rfl) (by omega) (Nat.le_refl _)
  refine mm_putr h fl_PT_16 (Or.inr ⟨rfl, he.2.2.2⟩) rfl rfl rfl (A4.is (by omega) (by omega) (by omega) rfl) (by omega) d_PT_init_19 ?_
  have A5 := ((A4.to (Q' := fun a => if a < 52 then ptQ 1 a else sh_r a) fun a h1 h2 => by
    by_cases q : a < 52
    · rw [if_pos q, if_pos q]
    · rw [if_neg q, if_neg q, show a = 52 by omega, shQ_eq (by omega) (by omega)]
      rfl).put (a := 1) (j := 1) (r := mm_n w3) (by omega) (by omega)).to (Q' := ptQ 2) fun a h1 _ => ptQ_next (i := 1) h1 (by omega) (fun _ _ _ => rfl) n3.symm
  rw [n3] at A5 ⊢
  generalize mm_sr (mm_new w3 100 4) 1 1 52 = w5 at A5 ⊢
  generalize mm_f0 w3 f2 = f5 at A5 ⊢
  have n5 := A5.2.1
  -- the plan
  refine mm_aload_n h d_PT_init_22 0 rfl rfl ?_
  refine mm_newc (k := 3) (N := 7) (q := _) h rfl cl_PT_20 in_PN iz_PN (by omega) (by omega) (by omega) d_PT_init_23 ?_
  have A6 := A5.then (blk_new (w := w5) (f := f5) (k := 3) (l := 0) n5 rfl rfl) (by omega) (Nat.le_refl _)
  rw [n5]
  generalize mm_new w5 3 0 = w6 at A6 ⊢
  generalize mm_f0 w5 f5 = f6 at A6 ⊢
  refine mm_dup h d_PT_init_26 rfl ?_
  refine mm_callI (As := []) (rest := [mm_rf E 53, mm_rf E 1]) h (c_PN_init (A6.last (by omega) (if_neg (by omega)))) rfl ci_PT_22 ii_PN_init cm_PN_init (by omega) (by omega) (by omega) rfl rfl (Nat.le_of_ble_eq_true rfl) d_PT_init_27 ?_
  rintro _ w7 f7 ⟨rfl, G2⟩
  have A7 := A6.then G2 (by omega) (by omega)
  refine mm_putr (r := 53) h fl_PT_23 (Or.inr ⟨rfl, he.2.2.2⟩) rfl rfl rfl (A7.is (by omega) (by omega) (by omega) rfl) (by omega) d_PT_init_30 ?_
  have A8 := (A7.put (a := 1) (j := 2) (r := 53) (by omega) (by omega)).to (Q' := ptQ 3) fun a h1 _ => ptQ_next (i := 2) h1 (by omega) (fun a _ h2 => if_pos h2) rfl
  generalize mm_sr w7 1 2 53 = w8 at A8 ⊢
  have n8 := A8.2.1
  -- the output
  refine mm_aload_n h d_PT_init_33 0 rfl rfl ?_
  refine mm_newc (k := 5) (N := 3) (q := _) h rfl cl_PT_27 in_OP iz_OP (by omega) (by omega) (by omega) d_PT_init_34 ?_
  have A9 := A8.then (blk_new (w := w8) (f := f7) (k := 5) (l := 0) n8 rfl rfl) (by omega) (Nat.le_refl _)
  rw [n8]
  generalize mm_new w8 5 0 = w9 at A9 ⊢
  generalize mm_f0 w8 f7 = f9 at A9 ⊢
  refine mm_dup h d_PT_init_37 rfl ?_
  refine mm_callIN (As := []) (rest := [mm_rf E 134, mm_rf E 1]) h (c_OP_init (A9.last (by omega) (if_neg (by omega)))) rfl ci_PT_29 ii_OP_init cm_OP_init (by omega) (by omega) (by omega) rfl rfl (Nat.le_of_ble_eq_true rfl) d_PT_init_38 ?_
  rintro _ w10 f10 ⟨rfl, G3⟩
  have A10 := A9.then G3 (by omega) (by omega)
  refine mm_putr (r := 134) h fl_PT_30 (Or.inr ⟨rfl, he.2.2.2⟩) rfl rfl rfl (A10.is (by omega) (by omega) (by omega) rfl) (by omega) d_PT_init_41 ?_
  have A11 := (A10.put (a := 1) (j := 3) (r := 134) (by omega) (by omega)).to (Q' := ptQ 4) fun a h1 _ => ptQ_next (i := 3) h1 (by omega) (fun a _ h2 => if_pos h2) rfl
  refine mm_vret h he d_PT_init_44 (by omega) (by omega) ⟨rfl, A11.to fun a h1 h2 => ?_⟩
  show (if a = 1 then pr 4 else sh_r a) = sh_r a
  by_cases e : a = 1
  · subst e
    rw [if_pos rfl]
    refine (sh_r_eq (by omega) (by decide +kernel) fun j hj => ?_).symm
    unfold pr pr pr pr pr
    rw [if_neg (by omega), if_neg (by omega), if_neg (by omega), if_neg (by omega)]
  · rw [if_neg e]
theorem c_RN_init {n : Nat} {x : Int32} (hw : mm_sh w) (hn : 153 ≤ n) (h1 : mm_n w = n + 1) (hk : mm_k w n = 6) : mm_C E y_RN_init b_RN_init 5 none 1 1 8 [mm_rf E n, mm_rf E 2, mm_rf E 53, mm_rf E 134, .int x] w f (mm_P none (mm_sr (mm_sr (mm_sr (mm_sr (mm_new w 100 8) n 5 (n + 1)) n 0 2) n 1 53) n 2 134) (mm_up (mm_f0 w f) n 3 x)) := by
  refine mm_start (by decide) rfl (Nat.le_of_ble_eq_true rfl) fun Γ h he => ?_
  have hi : ∀ w', mm_n w' = n + 2 → mm_k w' n = 6 → mm_is w' n 6 := fun w' q1 q2 => ⟨by omega, by omega, q2⟩
  have k1 : mm_k (mm_new w 100 8) n = 6 := by rw [mm_k_new, if_neg (by omega)]; exact hk
  have m1 : mm_n (mm_new w 100 8) = n + 2 := by rw [mm_n_new, h1]
  refine mm_aload_n h d_RN_init_0 0 rfl rfl ?_
  refine mm_obj h oi_RN nw_23 nw_24 (by omega) (Nat.le_of_ble_eq_true rfl) d_RN_init_1 ?_
  refine mm_aload_n h d_RN_init_4 0 rfl rfl ?_
  refine mm_bipush (v := 8) h d_RN_init_5 rfl ?_
  refine mm_newa (atype := .int) h 0 (k := 100) (N := 8) rfl rfl rfl ac_int (fun _ => rfl) (by decide) rfl (by decide) (by omega) (by omega) (by omega) d_RN_init_7 (fun U c z => z) ?_
  refine mm_putr h fl_RN_9 (Or.inr ⟨rfl, he.2.2.2⟩) rfl rfl rfl (hi _ m1 k1) (by omega) d_RN_init_9 ?_
  rw [h1]
  refine mm_aload_n h d_RN_init_12 0 rfl rfl ?_
  refine mm_aload_n h d_RN_init_13 1 rfl rfl ?_
  refine mm_putr (r := 2) h fl_RN_15 (Or.inr ⟨rfl, he.2.2.2⟩) rfl rfl rfl (hi _ m1 k1) (by omega) d_RN_init_14 ?_
  refine mm_aload_n h d_RN_init_17 0 rfl rfl ?_
  refine mm_aload_n h d_RN_init_18 2 rfl rfl ?_
  refine mm_putr (r := 53) h fl_RN_19 (Or.inr ⟨rfl, he.2.2.2⟩) rfl rfl rfl (hi _ m1 k1) (by omega) d_RN_init_19 ?_
  refine mm_aload_n h d_RN_init_22 0 rfl rfl ?_
  refine mm_aload_n h d_RN_init_23 3 rfl rfl ?_
  refine mm_putr (r := 134) h fl_RN_23 (Or.inr ⟨rfl, he.2.2.2⟩) rfl rfl rfl (hi _ m1 k1) (by omega) d_RN_init_24 ?_
  refine mm_aload_n h d_RN_init_27 0 rfl rfl ?_
  refine mm_iload h d_RN_init_28 4 rfl ?_
  refine mm_puti h fl_RN_27 (Or.inr ⟨rfl, he.2.2.2⟩) rfl rfl rfl (hi _ m1 k1) d_RN_init_30 ?_
  exact mm_vret h he d_RN_init_33 (by omega) (by omega) mm_Pr
end CCR
