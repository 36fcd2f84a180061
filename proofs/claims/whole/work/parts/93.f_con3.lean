/-! Constructors: the reference, the class, a run. -/
def mdJ (i : Nat) : Nat := ([2, 3, 4, 6, 7, 9, 12, 13, 14, 21, 22, 23, 24, 25, 31][i]?).getD 0
def mdR : Nat → Nat → Nat
  | 0, _ => 0
  | i + 1, j => if j = mdJ i then 137 + i else mdR i j
def mQ (i a : Nat) : Nat → Nat := if a = 136 then mdR i else fun _ => 0
theorem mQ_next {i a : Nat} : mm_up (fun a => if a < 137 + i then mQ i a else (fun _ _ => 0 : Nat → Nat → Nat) a) 136 (mdJ i) (137 + i) a = mQ (i + 1) a := by
  funext j
  by_cases e : a = 136
  · subst e
    show (if 136 = 136 ∧ j = mdJ i then 137 + i else (if 136 < 137 + i then (if 136 = 136 then mdR i else fun _ => 0) else fun _ => 0) j) = (if 136 = 136 then mdR (i + 1) else fun _ => 0) j
    rw [if_pos rfl, if_pos (show 136 < 137 + i by omega), if_pos rfl]
    show _ = if j = mdJ i then 137 + i else mdR i j
    by_cases q : j = mdJ i
    · rw [if_pos ⟨rfl, q⟩, if_pos q]
    · rw [if_neg (fun z => q z.2), if_neg q]
  · rw [mm_up_ne _ _ (fun z => e z.1)]
    show (if a < 137 + i then (if a = 136 then mdR i else fun _ => 0) else fun _ => 0) j = (if a = 136 then mdR (i + 1) else fun _ => 0) j
    rw [if_neg e, if_neg e]
    split <;> rfl
theorem mQ_15 {a : Nat} (h1 : 136 ≤ a) (h2 : a < 152) : mQ 15 a = sh_r a := by
  by_cases e : a = 136
  · subst e
    show (if 136 = 136 then mdR 15 else fun _ => 0) = _
    rw [if_pos rfl]
    refine (sh_r_eq (by omega) (by decide +kernel) fun j hj => ?_).symm
    unfold mdR mdR mdR mdR mdR mdR mdR mdR mdR mdR mdR mdR mdR mdR mdR mdR
    have h : ∀ i, i < 15 → mdJ i < 40 := by decide
    rw [if_neg (by have := h 14 (by omega); omega), if_neg (by have := h 13 (by omega); omega), if_neg (by have := h 12 (by omega); omega), if_neg (by have := h 11 (by omega); omega), if_neg (by have := h 10 (by omega); omega), if_neg (by have := h 9 (by omega); omega), if_neg (by have := h 8 (by omega); omega), if_neg (by have := h 7 (by omega); omega), if_neg (by have := h 6 (by omega); omega), if_neg (by have := h 5 (by omega); omega), if_neg (by have := h 4 (by omega); omega), if_neg (by have := h 3 (by omega); omega), if_neg (by have := h 2 (by omega); omega), if_neg (by have := h 1 (by omega); omega), if_neg (by have := h 0 (by omega); omega)]
  · show (if a = 136 then mdR 15 else fun _ => 0) = _
    rw [if_neg e, shQ_eq (by omega) e]
    funext j
    unfold shQ
    rw [if_neg (by omega), if_neg (by omega), if_neg (by omega), if_neg (by omega), if_neg (by omega), if_neg (by omega), if_neg (by omega), if_neg (by omega), if_neg (by omega), if_neg (by omega)]
section CCM
variable {E : mm_E} {w : mm_W} {f : mm_F}
theorem c_MD_init (hb0 : blk w w f f 136 137 (fun _ _ => 0)) : mm_C E y_MD_init b_MD_init 1 none 1 15 936 [mm_rf E 136] w f (fun r w' f' => r = none ∧ blk w w' f f' 136 152 sh_r) := by
  refine mm_start (by decide) rfl (Nat.le_of_ble_eq_true rfl) fun Γ h he => ?_
  have hb := hb0.to (Q' := mQ 0) fun a _ _ => by
    funext j
    show 0 = (if a = 136 then mdR 0 else fun _ => 0) j
    split <;> rfl
  have hn := hb.2.1
  refine mm_aload_n h d_MD_init_0 0 rfl rfl ?_
  refine mm_obj h oi_MD nw_23 nw_24 (by omega) (Nat.le_of_ble_eq_true rfl) d_MD_init_1 ?_
  refine mm_aload_n h d_MD_init_4 0 rfl rfl ?_
  refine mm_iconst (v := 4) h d_MD_init_5 rfl ?_
  refine mm_newa (atype := .int) h 0 (k := 100) (N := 4) rfl rfl rfl ac_int (fun _ => rfl) (by decide) rfl (by decide) (by omega) (by omega) (by omega) d_MD_init_6 (fun U c z => z) ?_
  have A0 := hb.then (blk_new (w := w) (f := f) (k := 100) (l := 4) hn rfl rfl) (by omega) (Nat.le_refl _)
  refine mm_putr h fl_MD_7 (Or.inr ⟨rfl, he.2.2.2⟩) rfl rfl rfl (A0.is (by omega) (by omega) (by omega) rfl) (by omega) d_MD_init_8 ?_
  have B1 := (A0.put (a := 136) (j := 2) (r := mm_n w) (by omega) (by omega)).to (Q' := mQ 1) fun a _ _ => by rw [hn]; exact mQ_next (i := 0)
  clear A0
  generalize mm_sr (mm_new w 100 4) 136 2 (mm_n w) = w1 at B1 ⊢
  generalize mm_f0 w f = f1 at B1 ⊢
  have n1 := B1.2.1
  refine mm_aload_n h d_MD_init_11 0 rfl rfl ?_
  refine mm_bipush (v := 16) h d_MD_init_12 rfl ?_
  refine mm_newa (atype := .boolean) h 1 (k := 101) (N := 16) rfl rfl rfl ac_boolean (fun _ => rfl) (by decide) rfl (by decide) (by omega) (by omega) (by omega) d_MD_init_14 (fun U c z => z) ?_
  have A1 := B1.then (blk_new (w := w1) (f := f1) (k := 101) (l := 16) n1 rfl rfl) (by omega) (Nat.le_refl _)
  refine mm_putr h fl_MD_13 (Or.inr ⟨rfl, he.2.2.2⟩) rfl rfl rfl (A1.is (by omega) (by omega) (by omega) rfl) (by omega) d_MD_init_16 ?_
  have B2 := (A1.put (a := 136) (j := 3) (r := mm_n w1) (by omega) (by omega)).to (Q' := mQ 2) fun a _ _ => by rw [n1]; exact mQ_next (i := 1)
  clear A1 B1
  generalize mm_sr (mm_new w1 101 16) 136 3 (mm_n w1) = w2 at B2 ⊢
  generalize mm_f0 w1 f1 = f2 at B2 ⊢
  have n2 := B2.2.1
  refine mm_aload_n h d_MD_init_19 0 rfl rfl ?_
  refine mm_iconst (v := 4) h d_MD_init_20 rfl ?_
  refine mm_newa (atype := .int) h 0 (k := 100) (N := 4) rfl rfl rfl ac_int (fun _ => rfl) (by decide) rfl (by decide) (by omega) (by omega) (by omega) d_MD_init_21 (fun U c z => z) ?_
  have A2 := B2.then (blk_new (w := w2) (f := f2) (k := 100) (l := 4) n2 rfl rfl) (by omega) (Nat.le_refl _)
  refine mm_putr h fl_MD_17 (Or.inr ⟨rfl, he.2.2.2⟩) rfl rfl rfl (A2.is (by omega) (by omega) (by omega) rfl) (by omega) d_MD_init_23 ?_
  have B3 := (A2.put (a := 136) (j := 4) (r := mm_n w2) (by omega) (by omega)).to (Q' := mQ 3) fun a _ _ => by rw [n2]; exact mQ_next (i := 2)
  clear A2 B2
  generalize mm_sr (mm_new w2 100 4) 136 4 (mm_n w2) = w3 at B3 ⊢
  generalize mm_f0 w2 f2 = f3 at B3 ⊢
  have n3 := B3.2.1
  refine mm_aload_n h d_MD_init_26 0 rfl rfl ?_
  refine mm_bipush (v := 48) h d_MD_init_27 rfl ?_
  refine mm_newa (atype := .int) h 0 (k := 100) (N := 48) rfl rfl rfl ac_int (fun _ => rfl) (by decide) rfl (by decide) (by omega) (by omega) (by omega) d_MD_init_29 (fun U c z => z) ?_
  have A3 := B3.then (blk_new (w := w3) (f := f3) (k := 100) (l := 48) n3 rfl rfl) (by omega) (Nat.le_refl _)
  refine mm_putr h fl_MD_20 (Or.inr ⟨rfl, he.2.2.2⟩) rfl rfl rfl (A3.is (by omega) (by omega) (by omega) rfl) (by omega) d_MD_init_31 ?_
  have B4 := (A3.put (a := 136) (j := 6) (r := mm_n w3) (by omega) (by omega)).to (Q' := mQ 4) fun a _ _ => by rw [n3]; exact mQ_next (i := 3)
  clear A3 B3
  generalize mm_sr (mm_new w3 100 48) 136 6 (mm_n w3) = w4 at B4 ⊢
  generalize mm_f0 w3 f3 = f4 at B4 ⊢
  have n4 := B4.2.1
  refine mm_aload_n h d_MD_init_34 0 rfl rfl ?_
  refine mm_sipush (v := 192) h d_MD_init_35 rfl ?_
  refine mm_newa (atype := .int) h 0 (k := 100) (N := 192) rfl rfl rfl ac_int (fun _ => rfl) (by decide) rfl (by decide) (by omega) (by omega) (by omega) d_MD_init_38 (fun U c z => z) ?_
  have A4 := B4.then (blk_new (w := w4) (f := f4) (k := 100) (l := 192) n4 rfl rfl) (by omega) (Nat.le_refl _)
  refine mm_putr h fl_MD_23 (Or.inr ⟨rfl, he.2.2.2⟩) rfl rfl rfl (A4.is (by omega) (by omega) (by omega) rfl) (by omega) d_MD_init_40 ?_
  have B5 := (A4.put (a := 136) (j := 7) (r := mm_n w4) (by omega) (by omega)).to (Q' := mQ 5) fun a _ _ => by rw [n4]; exact mQ_next (i := 4)
  clear A4 B4
  generalize mm_sr (mm_new w4 100 192) 136 7 (mm_n w4) = w5 at B5 ⊢
  generalize mm_f0 w4 f4 = f5 at B5 ⊢
  have n5 := B5.2.1
  refine mm_aload_n h d_MD_init_43 0 rfl rfl ?_
  refine mm_bipush (v := 40) h d_MD_init_44 rfl ?_
  refine mm_newa (atype := .int) h 0 (k := 100) (N := 40) rfl rfl rfl ac_int (fun _ => rfl) (by decide) rfl (by decide) (by omega) (by omega) (by omega) d_MD_init_46 (fun U c z => z) ?_
  have A5 := B5.then (blk_new (w := w5) (f := f5) (k := 100) (l := 40) n5 rfl rfl) (by omega) (Nat.le_refl _)
  refine mm_putr h fl_MD_26 (Or.inr ⟨rfl, he.2.2.2⟩) rfl rfl rfl (A5.is (by omega) (by omega) (by omega) rfl) (by omega) d_MD_init_48 ?_
  have B6 := (A5.put (a := 136) (j := 9) (r := mm_n w5) (by omega) (by omega)).to (Q' := mQ 6) fun a _ _ => by rw [n5]; exact mQ_next (i := 5)
  clear A5 B5
  generalize mm_sr (mm_new w5 100 40) 136 9 (mm_n w5) = w6 at B6 ⊢
  generalize mm_f0 w5 f5 = f6 at B6 ⊢
  have n6 := B6.2.1
  refine mm_aload_n h d_MD_init_51 0 rfl rfl ?_
  refine mm_bipush (v := 40) h d_MD_init_52 rfl ?_
  refine mm_newa (atype := .int) h 0 (k := 100) (N := 40) rfl rfl rfl ac_int (fun _ => rfl) (by decide) rfl (by decide) (by omega) (by omega) (by omega) d_MD_init_54 (fun U c z => z) ?_
  have A6 := B6.then (blk_new (w := w6) (f := f6) (k := 100) (l := 40) n6 rfl rfl) (by omega) (Nat.le_refl _)
  refine mm_putr h fl_MD_29 (Or.inr ⟨rfl, he.2.2.2⟩) rfl rfl rfl (A6.is (by omega) (by omega) (by omega) rfl) (by omega) d_MD_init_56 ?_
  have B7 := (A6.put (a := 136) (j := 12) (r := mm_n w6) (by omega) (by omega)).to (Q' := mQ 7) fun a _ _ => by rw [n6]; exact mQ_next (i := 6)
  clear A6 B6
  generalize mm_sr (mm_new w6 100 40) 136 12 (mm_n w6) = w7 at B7 ⊢
  generalize mm_f0 w6 f6 = f7 at B7 ⊢
  have n7 := B7.2.1
  refine mm_aload_n h d_MD_init_59 0 rfl rfl ?_
  refine mm_bipush (v := 40) h d_MD_init_60 rfl ?_
  refine mm_newa (atype := .int) h 0 (k := 100) (N := 40) rfl rfl rfl ac_int (fun _ => rfl) (by decide) rfl (by decide) (by omega) (by omega) (by omega) d_MD_init_62 (fun U c z => z) ?_
  have A7 := B7.then (blk_new (w := w7) (f := f7) (k := 100) (l := 40) n7 rfl rfl) (by omega) (Nat.le_refl _)
  refine mm_putr h fl_MD_32 (Or.inr ⟨rfl, he.2.2.2⟩) rfl rfl rfl (A7.is (by omega) (by omega) (by omega) rfl) (by omega) d_MD_init_64 ?_
  have B8 := (A7.put (a := 136) (j := 13) (r := mm_n w7) (by omega) (by omega)).to (Q' := mQ 8) fun a _ _ => by rw [n7]; exact mQ_next (i := 7)
  clear A7 B7
  generalize mm_sr (mm_new w7 100 40) 136 13 (mm_n w7) = w8 at B8 ⊢
  generalize mm_f0 w7 f7 = f8 at B8 ⊢
  have n8 := B8.2.1
  refine mm_aload_n h d_MD_init_67 0 rfl rfl ?_
  refine mm_bipush (v := 40) h d_MD_init_68 rfl ?_
  refine mm_newa (atype := .int) h 0 (k := 100) (N := 40) rfl rfl rfl ac_int (fun _ => rfl) (by decide) rfl (by decide) (by omega) (by omega) (by omega) d_MD_init_70 (fun U c z => z) ?_
  have A8 := B8.then (blk_new (w := w8) (f := f8) (k := 100) (l := 40) n8 rfl rfl) (by omega) (Nat.le_refl _)
  refine mm_putr h fl_MD_35 (Or.inr ⟨rfl, he.2.2.2⟩) rfl rfl rfl (A8.is (by omega) (by omega) (by omega) rfl) (by omega) d_MD_init_72 ?_
  have B9 := (A8.put (a := 136) (j := 14) (r := mm_n w8) (by omega) (by omega)).to (Q' := mQ 9) fun a _ _ => by rw [n8]; exact mQ_next (i := 8)
  clear A8 B8
  generalize mm_sr (mm_new w8 100 40) 136 14 (mm_n w8) = w9 at B9 ⊢
  generalize mm_f0 w8 f8 = f9 at B9 ⊢
  have n9 := B9.2.1
  refine mm_aload_n h d_MD_init_75 0 rfl rfl ?_
  refine mm_bipush (v := 8) h d_MD_init_76 rfl ?_
  refine mm_newa (atype := .int) h 0 (k := 100) (N := 8) rfl rfl rfl ac_int (fun _ => rfl) (by decide) rfl (by decide) (by omega) (by omega) (by omega) d_MD_init_78 (fun U c z => z) ?_
  have A9 := B9.then (blk_new (w := w9) (f := f9) (k := 100) (l := 8) n9 rfl rfl) (by omega) (Nat.le_refl _)
  refine mm_putr h fl_MD_38 (Or.inr ⟨rfl, he.2.2.2⟩) rfl rfl rfl (A9.is (by omega) (by omega) (by omega) rfl) (by omega) d_MD_init_80 ?_
  have B10 := (A9.put (a := 136) (j := 21) (r := mm_n w9) (by omega) (by omega)).to (Q' := mQ 10) fun a _ _ => by rw [n9]; exact mQ_next (i := 9)
  clear A9 B9
  generalize mm_sr (mm_new w9 100 8) 136 21 (mm_n w9) = w10 at B10 ⊢
  generalize mm_f0 w9 f9 = f10 at B10 ⊢
  have n10 := B10.2.1
  refine mm_aload_n h d_MD_init_83 0 rfl rfl ?_
  refine mm_bipush (v := 40) h d_MD_init_84 rfl ?_
  refine mm_newa (atype := .int) h 0 (k := 100) (N := 40) rfl rfl rfl ac_int (fun _ => rfl) (by decide) rfl (by decide) (by omega) (by omega) (by omega) d_MD_init_86 (fun U c z => z) ?_
  have A10 := B10.then (blk_new (w := w10) (f := f10) (k := 100) (l := 40) n10 rfl rfl) (by omega) (Nat.le_refl _)
  refine mm_putr h fl_MD_41 (Or.inr ⟨rfl, he.2.2.2⟩) rfl rfl rfl (A10.is (by omega) (by omega) (by omega) rfl) (by omega) d_MD_init_88 ?_
  have B11 := (A10.put (a := 136) (j := 22) (r := mm_n w10) (by omega) (by omega)).to (Q' := mQ 11) fun a _ _ => by rw [n10]; exact mQ_next (i := 10)
  clear A10 B10
  generalize mm_sr (mm_new w10 100 40) 136 22 (mm_n w10) = w11 at B11 ⊢
  generalize mm_f0 w10 f10 = f11 at B11 ⊢
  have n11 := B11.2.1
  refine mm_aload_n h d_MD_init_91 0 rfl rfl ?_
  refine mm_bipush (v := 40) h d_MD_init_92 rfl ?_
  refine mm_newa (atype := .int) h 0 (k := 100) (N := 40) rfl rfl rfl ac_int (fun _ => rfl) (by decide) rfl (by decide) (by omega) (by omega) (by omega) d_MD_init_94 (fun U c z => z) ?_
  have A11 := B11.then (blk_new (w := w11) (f := f11) (k := 100) (l := 40) n11 rfl rfl) (by omega) (Nat.le_refl _)
  refine mm_putr h fl_MD_44 (Or.inr ⟨rfl, he.2.2.2⟩) rfl rfl rfl (A11.is (by omega) (by omega) (by omega) rfl) (by omega) d_MD_init_96 ?_
  have B12 := (A11.put (a := 136) (j := 23) (r := mm_n w11) (by omega) (by omega)).to (Q' := mQ 12) fun a _ _ => by rw [n11]; exact mQ_next (i := 11)
  clear A11 B11
  generalize mm_sr (mm_new w11 100 40) 136 23 (mm_n w11) = w12 at B12 ⊢
  generalize mm_f0 w11 f11 = f12 at B12 ⊢
  have n12 := B12.2.1
  refine mm_aload_n h d_MD_init_99 0 rfl rfl ?_
  refine mm_bipush (v := 40) h d_MD_init_100 rfl ?_
  refine mm_newa (atype := .boolean) h 1 (k := 101) (N := 40) rfl rfl rfl ac_boolean (fun _ => rfl) (by decide) rfl (by decide) (by omega) (by omega) (by omega) d_MD_init_102 (fun U c z => z) ?_
  have A12 := B12.then (blk_new (w := w12) (f := f12) (k := 101) (l := 40) n12 rfl rfl) (by omega) (Nat.le_refl _)
  refine mm_putr h fl_MD_47 (Or.inr ⟨rfl, he.2.2.2⟩) rfl rfl rfl (A12.is (by omega) (by omega) (by omega) rfl) (by omega) d_MD_init_104 ?_
  have B13 := (A12.put (a := 136) (j := 24) (r := mm_n w12) (by omega) (by omega)).to (Q' := mQ 13) fun a _ _ => by rw [n12]; exact mQ_next (i := 12)
  clear A12 B12
  generalize mm_sr (mm_new w12 101 40) 136 24 (mm_n w12) = w13 at B13 ⊢
  generalize mm_f0 w12 f12 = f13 at B13 ⊢
  have n13 := B13.2.1
  refine mm_aload_n h d_MD_init_107 0 rfl rfl ?_
  refine mm_sipush (v := 320) h d_MD_init_108 rfl ?_
  refine mm_newa (atype := .int) h 0 (k := 100) (N := 320) rfl rfl rfl ac_int (fun _ => rfl) (by decide) rfl (by decide) (by omega) (by omega) (by omega) d_MD_init_111 (fun U c z => z) ?_
  have A13 := B13.then (blk_new (w := w13) (f := f13) (k := 100) (l := 320) n13 rfl rfl) (by omega) (Nat.le_refl _)
  refine mm_putr h fl_MD_50 (Or.inr ⟨rfl, he.2.2.2⟩) rfl rfl rfl (A13.is (by omega) (by omega) (by omega) rfl) (by omega) d_MD_init_113 ?_
  have B14 := (A13.put (a := 136) (j := 25) (r := mm_n w13) (by omega) (by omega)).to (Q' := mQ 14) fun a _ _ => by rw [n13]; exact mQ_next (i := 13)
  clear A13 B13
  generalize mm_sr (mm_new w13 100 320) 136 25 (mm_n w13) = w14 at B14 ⊢
  generalize mm_f0 w13 f13 = f14 at B14 ⊢
  have n14 := B14.2.1
  refine mm_aload_n h d_MD_init_116 0 rfl rfl ?_
  refine mm_bipush (v := 64) h d_MD_init_117 rfl ?_
  refine mm_newa (atype := .int) h 0 (k := 100) (N := 64) rfl rfl rfl ac_int (fun _ => rfl) (by decide) rfl (by decide) (by omega) (by omega) (by omega) d_MD_init_119 (fun U c z => z) ?_
  have A14 := B14.then (blk_new (w := w14) (f := f14) (k := 100) (l := 64) n14 rfl rfl) (by omega) (Nat.le_refl _)
  refine mm_putr h fl_MD_53 (Or.inr ⟨rfl, he.2.2.2⟩) rfl rfl rfl (A14.is (by omega) (by omega) (by omega) rfl) (by omega) d_MD_init_121 ?_
  have B15 := (A14.put (a := 136) (j := 31) (r := mm_n w14) (by omega) (by omega)).to (Q' := mQ 15) fun a _ _ => by rw [n14]; exact mQ_next (i := 14)
  clear A14 B14
  generalize mm_sr (mm_new w14 100 64) 136 31 (mm_n w14) = w15 at B15 ⊢
  generalize mm_f0 w14 f14 = f15 at B15 ⊢
  have n15 := B15.2.1
  exact mm_vret h he d_MD_init_124 (by omega) (by omega) ⟨rfl, B15.to fun a h1 h2 => mQ_15 h1 h2⟩
end CCM
