/-! Constructors of the class. -/
def shQ (a j : Nat) : Nat :=
  if a = 1 then (if j = 0 then 2 else if j = 1 then 52 else if j = 2 then 53 else if j = 3 then 134 else 0)
  else if a = 2 then (if j = 0 then 3 else 0) else if a = 3 then (if j < 4 then 4 + 12 * j else 0)
  else if a < 52 then (if a % 12 = 4 then (if j = 2 then a + 1 else if j = 3 then a + 2 else if j = 4 then a + 7 else 0) else if a % 12 = 6 ∨ a % 12 = 11 then (if j < 4 then a + 1 + j else 0) else 0)
  else if a = 53 then (if j = 0 then 54 else if j = 5 then 55 else 0) else if a = 55 then (if j < 39 then 56 + 2 * j else 0)
  else if a < 56 then 0 else if a < 134 then (if a % 2 = 0 ∧ j = 9 then a + 1 else 0) else if a = 134 then (if j = 0 then 135 else 0) else if a = 136 then sh_r 136 j else 0
theorem shQ_40 : ∀ a, a < 153 → ∀ j, j < 40 → sh_r a j = shQ a j := by decide +kernel
theorem shQ_eq {a : Nat} (ha : a < 153) (h6 : ¬ a = 136) : sh_r a = shQ a := by
  refine sh_r_eq ha (shQ_40 a ha) fun j hj => ?_
  unfold shQ
  repeat' split
  all_goals first | rfl | omega
theorem blk.cast {w0 w : mm_W} {f0 f : mm_F} {a0 a1 a2 : Nat} {Q : Nat → Nat → Nat} (h : blk w0 w f0 f a0 a1 Q) (e : a1 = a2) : blk w0 w f0 f a0 a2 Q := e ▸ h
/-- the block's references are the shape's -/
theorem blk.sh {w0 w : mm_W} {f0 f : mm_F} {a0 a1 a2 : Nat} {Q : Nat → Nat → Nat} (h : blk w0 w f0 f a0 a1 Q) (e : a1 = a2) (h3 : a2 ≤ 153) (h6 : ¬ (a0 ≤ 136 ∧ 136 < a2)) (hq : ∀ a j, a0 ≤ a → a < a2 → Q a j = shQ a j) : blk w0 w f0 f a0 a2 sh_r := by
  subst e
  exact h.to fun a x1 x2 => by
    rw [shQ_eq (by omega) (by omega)]
    exact funext fun j => hq a j x1 x2
theorem shQ_t {a j : Nat} (h1 : 4 ≤ a) (h2 : a < 52) : shQ a j = if a % 12 = 4 then (if j = 2 then a + 1 else if j = 3 then a + 2 else if j = 4 then a + 7 else 0) else if a % 12 = 6 ∨ a % 12 = 11 then (if j < 4 then a + 1 + j else 0) else 0 := by
  unfold shQ
  rw [if_neg (by omega), if_neg (by omega), if_neg (by omega), if_pos h2]
theorem shQ_s {a j : Nat} (h1 : 56 ≤ a) (h2 : a < 134) : shQ a j = if a % 2 = 0 ∧ j = 9 then a + 1 else 0 := by
  unfold shQ
  rw [if_neg (by omega), if_neg (by omega), if_neg (by omega), if_neg (by omega), if_neg (by omega), if_neg (by omega), if_neg (by omega), if_pos h2]
theorem q_SP {s a j : Nat} (hs : s < 39) (h1 : 56 + 2 * s ≤ a) (h2 : a < 58 + 2 * s) : mm_up (fun a => if a < 57 + 2 * s then (fun _ _ => 0 : Nat → Nat → Nat) a else (fun _ _ => 0 : Nat → Nat → Nat) a) (56 + 2 * s) 9 (57 + 2 * s) a j = shQ a j := by
  rw [shQ_s (by omega) (by omega)]
  unfold mm_up
  by_cases e : a = 56 + 2 * s ∧ j = 9
  · rw [if_pos e, if_pos (by omega)]; omega
  · rw [if_neg e, if_neg (by omega)]
    show (if a < 57 + 2 * s then (fun _ => 0 : Nat → Nat) else fun _ => 0) j = 0
    split <;> rfl
theorem q_OP {a j : Nat} (h1 : 134 ≤ a) (h2 : a < 136) : mm_up (fun a => if a < 135 then (fun _ _ => 0 : Nat → Nat → Nat) a else (fun _ _ => 0 : Nat → Nat → Nat) a) 134 0 135 a j = shQ a j := by
  unfold shQ
  rw [if_neg (by omega), if_neg (by omega), if_neg (by omega), if_neg (by omega), if_neg (by omega), if_neg (by omega), if_neg (by omega), if_neg (by omega)]
  unfold mm_up
  by_cases e : a = 134
  · rw [if_pos e]
    by_cases q : j = 0
    · rw [if_pos ⟨e, q⟩, if_pos q]
    · rw [if_neg (fun z => q z.2), if_neg q]
      show (if a < 135 then (fun _ => 0 : Nat → Nat) else fun _ => 0) j = 0
      split <;> rfl
  · rw [if_neg e, if_neg (by omega), if_neg (by omega)]
    show (if a < 135 then (fun _ => 0 : Nat → Nat) else fun _ => 0) j = 0
    split <;> rfl
/-- the references of a table's twelve objects -/
def tQ (t : Nat) : Nat → Nat → Nat := mm_up (fun a => if a < 11 + 12 * t then (mm_up (fun a => if a < 6 + 12 * t then (mm_up (fun a => if a < 5 + 12 * t then (fun _ _ => 0 : Nat → Nat → Nat) a else (fun _ _ => 0 : Nat → Nat → Nat) a) (4 + 12 * t) 2 (5 + 12 * t)) a else (fun x j => if x = 6 + 12 * t ∧ j < 4 then 6 + 12 * t + 1 + j else 0 : Nat → Nat → Nat) a) (4 + 12 * t) 3 (6 + 12 * t)) a else (fun x j => if x = 11 + 12 * t ∧ j < 4 then 11 + 12 * t + 1 + j else 0 : Nat → Nat → Nat) a) (4 + 12 * t) 4 (11 + 12 * t)
theorem q_TB {t a j : Nat} (ht : t < 4) (h1 : 4 + 12 * t ≤ a) (h2 : a < 16 + 12 * t) : tQ t a j = shQ a j := by
  rw [shQ_t (by omega) (by omega)]
  unfold tQ
  have u : ∀ (Q : Nat → Nat → Nat) (i r : Nat), mm_up Q (4 + 12 * t) i r a j = if a = 4 + 12 * t ∧ j = i then r else Q a j := fun _ _ _ => rfl
  rw [u]
  by_cases e4 : a = 4 + 12 * t ∧ j = 4
  · rw [if_pos e4, if_pos (by omega), if_neg (by omega), if_neg (by omega), if_pos e4.2]; omega
  · rw [if_neg e4]
    by_cases l11 : a < 11 + 12 * t
    · rw [if_pos l11, u]
      by_cases e3 : a = 4 + 12 * t ∧ j = 3
      · rw [if_pos e3, if_pos (by omega), if_neg (by omega), if_pos e3.2]; omega
      · rw [if_neg e3]
        by_cases l6 : a < 6 + 12 * t
        · rw [if_pos l6, u]
          by_cases e2 : a = 4 + 12 * t ∧ j = 2
          · rw [if_pos e2, if_pos (by omega), if_pos e2.2]; omega
          · rw [if_neg e2]
            have z : (if a < 5 + 12 * t then (fun _ _ => 0 : Nat → Nat → Nat) a else (fun _ _ => 0 : Nat → Nat → Nat) a) j = 0 := by split <;> rfl
            rw [z]
            by_cases e : a % 12 = 4
            · rw [if_pos e, if_neg (by omega), if_neg (by omega), if_neg (by omega)]
            · rw [if_neg e, if_neg (by omega)]
        · rw [if_neg l6]
          show (if a = 6 + 12 * t ∧ j < 4 then 6 + 12 * t + 1 + j else 0) = _
          rw [if_neg (show ¬ a % 12 = 4 by omega)]
          by_cases e : a = 6 + 12 * t
          · rw [if_pos (show a % 12 = 6 ∨ a % 12 = 11 by omega)]
            by_cases q : j < 4
            · rw [if_pos ⟨e, q⟩, if_pos q, e]
            · rw [if_neg (fun z => q z.2), if_neg q]
          · rw [if_neg (fun z => e z.1), if_neg (by omega)]
    · rw [if_neg l11]
      show (if a = 11 + 12 * t ∧ j < 4 then 11 + 12 * t + 1 + j else 0) = _
      rw [if_neg (show ¬ a % 12 = 4 by omega)]
      by_cases e : a = 11 + 12 * t
      · rw [if_pos (show a % 12 = 6 ∨ a % 12 = 11 by omega)]
        by_cases q : j < 4
        · rw [if_pos ⟨e, q⟩, if_pos q, e]
        · rw [if_neg (fun z => q z.2), if_neg q]
      · rw [if_neg (fun z => e z.1), if_neg (by omega)]
section CCO
variable {E : mm_E} {w : mm_W} {f : mm_F}
theorem c_SP_init {s : Nat} (hs : s < 39) (hb : blk w w f f (56 + 2 * s) (57 + 2 * s) (fun _ _ => 0)) : mm_C E y_SP_init b_SP_init 1 none 1 1 8 [mm_rf E (56 + 2 * s)] w f (fun r w' f' => r = none ∧ blk w w' f f' (56 + 2 * s) (58 + 2 * s) sh_r) := by
  refine mm_start (by decide) rfl (Nat.le_of_ble_eq_true rfl) fun Γ h he => ?_
  have hn := hb.2.1
  have sk : sh_k (56 + 2 * s) = 4 := (by decide +kernel : ∀ s, s < 39 → sh_k (56 + 2 * s) = 4) s hs
  have sk1 : sh_k (57 + 2 * s) = 100 := (by decide +kernel : ∀ s, s < 39 → sh_k (57 + 2 * s) = 100) s hs
  have sl1 : sh_l (57 + 2 * s) = 8 := (by decide +kernel : ∀ s, s < 39 → sh_l (57 + 2 * s) = 8) s hs
  refine mm_aload_n h d_SP_init_0 0 rfl rfl ?_
  refine mm_obj h oi_SP nw_23 nw_24 (by omega) (Nat.le_of_ble_eq_true rfl) d_SP_init_1 ?_
  refine mm_aload_n h d_SP_init_4 0 rfl rfl ?_
  refine mm_bipush (v := 8) h d_SP_init_5 rfl ?_
  refine mm_newa (atype := .int) h 0 (k := 100) (N := 8) rfl rfl rfl ac_int (fun _ => rfl) (by decide) rfl (by decide) (by omega) (by omega) (by omega) d_SP_init_7 (fun U c z => z) ?_
  have B := hb.then (blk_new (w := w) (f := f) hn sk1 sl1) (by omega) (Nat.le_refl _)
  refine mm_putr h fl_SP_9 (Or.inr ⟨rfl, he.2.2.2⟩) rfl rfl rfl (B.is (by omega) (by omega) (by omega) sk) (by omega) d_SP_init_9 ?_
  refine mm_vret h he d_SP_init_12 (by omega) (by omega) ⟨rfl, (B.put (a := 56 + 2 * s) (j := 9) (r := mm_n w) (by omega) (by omega)).sh (by omega) (by omega) (by omega) fun a j h1 h2 => ?_⟩
  rw [hn]
  exact q_SP hs h1 h2
theorem c_OP_init (hb : blk w w f f 134 135 (fun _ _ => 0)) : mm_C E y_OP_init b_OP_init 1 none 1 1 64 [mm_rf E 134] w f (fun r w' f' => r = none ∧ blk w w' f f' 134 136 sh_r) := by
  refine mm_start (by decide) rfl (Nat.le_of_ble_eq_true rfl) fun Γ h he => ?_
  have hn := hb.2.1
  refine mm_aload_n h d_OP_init_0 0 rfl rfl ?_
  refine mm_obj h oi_OP nw_23 nw_24 (by omega) (Nat.le_of_ble_eq_true rfl) d_OP_init_1 ?_
  refine mm_aload_n h d_OP_init_4 0 rfl rfl ?_
  refine mm_bipush (v := 64) h d_OP_init_5 rfl ?_
  refine mm_newa (atype := .int) h 0 (k := 100) (N := 64) rfl rfl rfl ac_int (fun _ => rfl) (by decide) rfl (by decide) (by omega) (by omega) (by omega) d_OP_init_7 (fun U c z => z) ?_
  have B := hb.then (blk_new (w := w) (f := f) (k := 100) (l := 64) hn rfl rfl) (by omega) (Nat.le_refl _)
  refine mm_putr h fl_OP_9 (Or.inr ⟨rfl, he.2.2.2⟩) rfl rfl rfl (B.is (by omega) (by omega) (by omega) rfl) (by omega) d_OP_init_9 ?_
  refine mm_vret h he d_OP_init_12 (by omega) (by omega) ⟨rfl, (B.put (a := 134) (j := 0) (r := mm_n w) (by omega) (by omega)).sh (by omega) (by omega) (by omega) fun a j h1 h2 => ?_⟩
  rw [hn]
  exact q_OP h1 h2
theorem c_TB_init {t : Nat} (ht : t < 4) (hb : blk w w f f (4 + 12 * t) (5 + 12 * t) (fun _ _ => 0)) : mm_C E y_TB_init b_TB_init 1 none 1 11 396 [mm_rf E (4 + 12 * t)] w f (fun r w' f' => r = none ∧ blk w w' f f' (4 + 12 * t) (16 + 12 * t) sh_r) := by
  refine mm_start (by decide) rfl (Nat.le_of_ble_eq_true rfl) fun Γ h he => ?_
  have hn := hb.2.1
  have sk : sh_k (4 + 12 * t) = 2 := (by decide +kernel : ∀ t, t < 4 → sh_k (4 + 12 * t) = 2) t ht
  have sk1 : sh_k (5 + 12 * t) = 101 := (by decide +kernel : ∀ t, t < 4 → sh_k (5 + 12 * t) = 101) t ht
  have sl1 : sh_l (5 + 12 * t) = 4 := (by decide +kernel : ∀ t, t < 4 → sh_l (5 + 12 * t) = 4) t ht
  have m1 : sh_k (6 + 12 * t) = 103 ∧ sh_l (6 + 12 * t) = 4 ∧ sh_k (11 + 12 * t) = 103 ∧ sh_l (11 + 12 * t) = 4 := (by decide +kernel : ∀ t, t < 4 → sh_k (6 + 12 * t) = 103 ∧ sh_l (6 + 12 * t) = 4 ∧ sh_k (11 + 12 * t) = 103 ∧ sh_l (11 + 12 * t) = 4) t ht
  have m2 : ∀ i, i < 4 → sh_k (6 + 12 * t + 1 + i) = 100 ∧ sh_l (6 + 12 * t + 1 + i) = 48 := (by decide +kernel : ∀ t, t < 4 → ∀ i, i < 4 → sh_k (6 + 12 * t + 1 + i) = 100 ∧ sh_l (6 + 12 * t + 1 + i) = 48) t ht
  have m3 : ∀ i, i < 4 → sh_k (11 + 12 * t + 1 + i) = 100 ∧ sh_l (11 + 12 * t + 1 + i) = 48 := (by decide +kernel : ∀ t, t < 4 → ∀ i, i < 4 → sh_k (11 + 12 * t + 1 + i) = 100 ∧ sh_l (11 + 12 * t + 1 + i) = 48) t ht
  refine mm_aload_n h d_TB_init_0 0 rfl rfl ?_
  refine mm_obj h oi_TB nw_23 nw_24 (by omega) (Nat.le_of_ble_eq_true rfl) d_TB_init_1 ?_
  refine mm_aload_n h d_TB_init_4 0 rfl rfl ?_
  refine mm_iconst (v := 4) h d_TB_init_5 rfl ?_
  refine mm_newa (atype := .boolean) h 1 (k := 101) (N := 4) rfl rfl rfl ac_boolean (fun _ => rfl) (by decide) rfl (by decide) (by omega) (by omega) (by omega) d_TB_init_6 (fun U c z => z) ?_
  have B1 := (hb.then (blk_new (w := w) (f := f) hn sk1 sl1) (by omega) (Nat.le_refl _)).cast (show 5 + 12 * t + 1 = 6 + 12 * t by omega)
  refine mm_putr h fl_TB_9 (Or.inr ⟨rfl, he.2.2.2⟩) rfl rfl rfl (B1.is (by omega) (by omega) (by omega) sk) (by omega) d_TB_init_8 ?_
  have B2 := B1.put (a := 4 + 12 * t) (j := 2) (r := mm_n w) (by omega) (by omega)
  rw [hn] at B2 ⊢
  generalize mm_sr (mm_new w 101 4) (4 + 12 * t) 2 (5 + 12 * t) = w2 at B2
  generalize mm_f0 w f = f2 at B2
  have n2 := B2.2.1
  refine mm_aload_n h d_TB_init_11 0 rfl rfl ?_
  refine mm_iconst (v := 4) h d_TB_init_12 rfl ?_
  refine mm_bipush (v := 48) h d_TB_init_13 rfl ?_
  refine mm_mna h cl_TB_15 ac_int (by omega) (by omega) (by omega) d_TB_init_15 ?_
  have B3 := (B2.then (blk_mn (w := w2) (f := f2) n2 m1.1 m1.2.1 m2) (by omega) (Nat.le_refl _)).cast (show 6 + 12 * t + 5 = 11 + 12 * t by omega)
  refine mm_putr h fl_TB_17 (Or.inr ⟨rfl, he.2.2.2⟩) rfl rfl rfl (B3.is (by omega) (by omega) (by omega) sk) (by omega) d_TB_init_19 ?_
  have B4 := B3.put (a := 4 + 12 * t) (j := 3) (r := mm_n w2) (by omega) (by omega)
  rw [n2] at B4 ⊢
  generalize mm_sr (mm_mn w2) (4 + 12 * t) 3 (6 + 12 * t) = w4 at B4
  generalize mm_fn w2 f2 = f4 at B4
  have n4 := B4.2.1
  refine mm_aload_n h d_TB_init_22 0 rfl rfl ?_
  refine mm_iconst (v := 4) h d_TB_init_23 rfl ?_
  refine mm_bipush (v := 48) h d_TB_init_24 rfl ?_
  refine mm_mna h cl_TB_15 ac_int (by omega) (by omega) (by omega) d_TB_init_26 ?_
  have B5 := B4.then (blk_mn (w := w4) (f := f4) n4 m1.2.2.1 m1.2.2.2 m3) (by omega) (Nat.le_refl _)
  refine mm_putr h fl_TB_20 (Or.inr ⟨rfl, he.2.2.2⟩) rfl rfl rfl (B5.is (by omega) (by omega) (by omega) sk) (by omega) d_TB_init_30 ?_
  refine mm_vret h he d_TB_init_33 (by omega) (by omega) ⟨rfl, (B5.put (a := 4 + 12 * t) (j := 4) (r := mm_n w4) (by omega) (by omega)).sh (by omega) (by omega) (by omega) fun a j h1 h2 => ?_⟩
  rw [n4]
  exact q_TB ht h1 h2
end CCO
