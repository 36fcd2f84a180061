/-! The law: the script, its reads; the cases, out of what class and reference do. -/
/-- the script lies in the old heap -/
def mm_Sc (E : mm_E) (Γ : mm_G) (b L : Nat) (xs : Nat → Int32) : Prop := b ≤ E.2.2.1 ∧ ∃ scr : Cell, E.2.2.2 b = some scr ∧ (mm_s Γ).isArrayOf scr .int ∧ scr.vm ≠ .unknown ∧ scr.slots.size = L ∧ ∀ j : Nat, j < L → scr.slots[j]? = some (.int (xs j))
section LW
variable {E : mm_E} {Γ : mm_G} {pc kc ks : Nat} {lv : List (Nat × Value)} {st : List Value} {w : mm_W} {f : mm_F} {ca sa b L i : Nat} {xs : Nat → Int32}
theorem lw_len (h : mm_ok E Γ code 7 "PlannedTablesLaw" 8 kc ks) (hs : mm_Sc E Γ b L xs) (hd : decode code pc = .ok (.arraylength, 1)) (k : mm_go E Γ 7 (pc + 1) lv (.int (nI L) :: st) w f ca sa) : mm_go E Γ 7 pc lv (.ref b :: st) w f ca sa := by
  intro ls H locs hl hR hq
  obtain ⟨hb, scr, h1, h2, h3, h4, h5⟩ := hs
  exact W.alen (n := nI L) h.1 h.2.1 (by rw [hR.2.1 b hb]; exact h1) h2 (by rw [h4]; rfl) rfl rfl hd (k ls H locs hl hR hq)
theorem lw_ald (h : mm_ok E Γ code 7 "PlannedTablesLaw" 8 kc ks) (hs : mm_Sc E Γ b L xs) (hL : L ≤ 2048) {j : Nat} (hj : j < L) (hd : decode code pc = .ok (.iaload, 1)) (k : mm_go E Γ 7 (pc + 1) lv (.int (xs j) :: st) w f ca sa) : mm_go E Γ 7 pc lv (.int (nI j) :: .ref b :: st) w f ca sa := by
  intro ls H locs hl hR hq
  obtain ⟨hb, scr, h1, h2, h3, h4, h5⟩ := hs
  have e : (nI j).toNatClampNeg = j := nI_clamp (by omega)
  exact W.iald (v := .int (xs j)) h.1 h.2.1 (by rw [hR.2.1 b hb]; exact h1) h2 h3 (by rw [h4]; exact nI_in hj (by omega)) (by rw [e]; exact h5 j hj) rfl rfl hd (k ls H locs hl hR hq)
/-- script[i + c] -/
theorem lw_rd {c : Int} (cN q0 q4 : Nat) (h : mm_ok E Γ code 7 "PlannedTablesLaw" 8 kc ks) (hs : mm_Sc E Γ b L xs) (hL : L ≤ 2048) (hi : i + cN < L) (v0 : lv[q0]? = some (0, .ref b)) (v4 : lv[q4]? = some (4, .int (nI i))) (d0 : decode code pc = .ok (.aload_n 0, 1)) (d1 : decode code (pc + 1) = .ok (.iload 4, 2)) (d2 : decode code (pc + 3) = .ok (.iconst c, 1)) (d3 : decode code (pc + 4) = .ok (.iadd, 1)) (d4 : decode code (pc + 5) = .ok (.iaload, 1)) (hc : Int32.ofInt c = nI cN)
    (k : mm_go E Γ 7 (pc + 6) lv (.int (xs (i + cN)) :: st) w f ca sa) : mm_go E Γ 7 pc lv st w f ca sa := by
  refine mm_aload_n h d0 q0 rfl v0 ?_
  refine mm_iload h d1 q4 v4 ?_
  refine mm_iconst h d2 hc ?_
  refine mm_iadd h d3 ?_
  rw [nI_add]
  exact lw_ald h hs hL hi d4 k
abbrev lw_lv (E : mm_E) (b i : Nat) : List (Nat × Value) := [(4, .int (nI i)), (3, mm_rf E 152), (2, mm_rf E 136), (1, mm_rf E 1), (0, .ref b)]
end LW
theorem lg_cmp_self (x : Int64) : lg_cmp x x = 0 := by unfold lg_cmp; simp
/-- what class and reference have to do with one another in a wrapped call -/
def lw_B (E : mm_E) (y : MethodName) (cy : ByteArray) (ny : Nat) (ret : FieldType) (lev : Nat) (As : List Value) (g : Int32 → Int64) (P : Option Value → mm_W → mm_F → Prop) : Prop :=
  ∀ r w1 f1, P r w1 f1 → ∃ (k v2 : Int32) (f2 : mm_F), r = some (.int k) ∧ mm_sh w1 ∧ mm_C E y cy ny (some ret) lev 0 0 (mm_rf E 136 :: As) w1 f1 (mm_P (some (.int v2)) w1 f2) ∧ f2 136 0 = k ∧ (k = 0 → mm_j w1 152 0 = g v2) ∧ IV f2
