/-! Contracts of the reference's run: going on, the run. -/
section CMD9
variable {E : mm_E} {w : mm_W} {f : mm_F} {s n m R : Nat} {cl : Nat → Nat}
theorem mI_toInt {b : Nat} (h : b ≤ 1000) : (nI b - 1).toInt = (b : Int) - 1 := by
  cases b with
  | zero => decide
  | succ k => rw [nI_pred, nI_toInt (by omega)]; omega
theorem mI_le {a b : Nat} (ha : a ≤ 1000) (hb : b ≤ 1000) : nI a - 1 ≤ nI b - 1 ↔ a ≤ b := by
  rw [Int32.le_iff_toInt_le, mI_toInt ha, mI_toInt hb]; omega
theorem mI_lt0 {b : Nat} (hb : b ≤ 1000) : nI b - 1 < 0 ↔ b = 0 := by
  rw [Int32.lt_iff_toInt_lt, mI_toInt hb, Int32.toInt_zero]; omega
theorem mI_1 (b : Nat) : nI b - 1 + 1 = nI b := Int32.sub_add_cancel _ _
theorem wtF_ok {b : Nat} (h : ¬ wtF f b n < 0) (hb : n ≤ 100) (hb2 : b ≤ n) : ∃ s, b ≤ s ∧ s < n ∧ f 143 s = 5 ∧ wtF f b n = nI s := by
  unfold wtF at h ⊢
  rcases lsF_val (fun s => decide (f 143 s = 5 ∧ ¬ f 149 s = 0)) b (n - b) with hv | ⟨s, h1, h2, h3, h4⟩
  · rw [hv] at h; exact absurd (by decide) h
  · exact ⟨s, h1, by omega, (of_decide_eq_true h3).1, h4⟩
theorem sfF_ok {b : Nat} (h : ¬ sfF f b n ≤ wtF f b n) (hb : n ≤ 100) (hb2 : b ≤ n) : ∃ s, b ≤ s ∧ s < n ∧ 0 < s ∧ f 143 s = 7 ∧ sfF f b n = nI s := by
  have h0 : sfF f b n ≠ -1 := fun e => h (by
    rw [e]
    unfold wtF
    rcases lsF_val (fun s => decide (f 143 s = 5 ∧ ¬ f 149 s = 0)) b (n - b) with hv | ⟨s, h1, h2, h3, h4⟩
    · rw [hv]; exact Int32.le_refl _
    · rw [h4, Int32.le_iff_toInt_le, nI_toInt (by omega)]
      have : (-1 : Int32).toInt = -1 := by decide
      omega)
  unfold sfF at h0 ⊢
  rcases lsF_val (fun s => decide (0 < s ∧ f 143 s = 7 ∧ f 147 s = pw f s 0)) b (n - b) with hv | ⟨s, h1, h2, h3, h4⟩
  · exact absurd hv h0
  · have := of_decide_eq_true h3
    exact ⟨s, h1, by omega, this.1, this.2.1, h4⟩
theorem gI_fr (f : mm_F) (n R b : Nat) : dfr f (gI f n R b).1 := by
  unfold gI
  split
  · exact dfr.rf f
  split
  · exact foF_fr _ _ _ _
  split
  · exact bgF_fr _ _ _
  · exact csF_fr _ _ _
theorem src_op (hr : RS f n m R cl) {s : Nat} (h0 : ¬ f 143 0 = 5) (h2 : s < n) (h5 : f 143 s = 5) : 1 ≤ s := by
  rcases Nat.eq_zero_or_pos s with z | z
  · rw [z] at h5; exact absurd h5 h0
  · exact z
theorem gI_RD {b : Nat} (hr : RS f n m R cl) (h0 : ¬ f 143 0 = 5) (h : RD f) (hb : b < n) : RD (gI f n R b).1 := by
  have n3 := hr.2.2.1
  unfold gI
  split
  · exact h
  split
  · rename_i _ q
    obtain ⟨s, s1, s2, s3, s4⟩ := wtF_ok q (by omega) (by omega)
    rw [s4, nI_clamp (by omega)]
    exact foF_RD hr h (src_op hr h0 s2 s3) s2 s3
  split
  · exact bgF_RD hr h
  · exact csF_RD hr h hb
theorem gI_b {b : Nat} (hr : RS f n m R cl) (hb : b < n) : (gI f n R b).2 ≤ n := by
  have n3 := hr.2.2.1
  have n1 := hr.2.1
  unfold gI
  split
  · rename_i q
    obtain ⟨s, s1, s2, s3, s4, s5⟩ := sfF_ok q (by omega) (by omega)
    rw [s5, nI_clamp (by omega)]
    exact s2
  split
  · exact Nat.le_of_lt hb
  split
  · show (if _ then 1 else 0) ≤ n
    split <;> omega
  · exact hb
theorem c_MD_go {g : mm_F} {K : Nat} (hw : mm_sh w) (hr : RS f n m R cl) (h0 : ¬ f 143 0 = 5) (hd : RD f) (hg : grM K f n R 0 = some g) : mm_C E y_MD_go b_MD_go 4 none 4 0 0 [mm_rf E 136] w f (mm_P none w g) := by
  refine mm_start (by decide) rfl (Nat.le_of_ble_eq_true rfl) fun Γ h he => ?_
  have loop : ∀ k (f : mm_F) b, RS f n m R cl → ¬ f 143 0 = 5 → RD f → b ≤ n → grM k f n R b = some g → mm_go E Γ 4 2 [(0, mm_rf E 136), (1, .int (nI b - 1))] [] w f 0 0 := by
    intro k
    induction k with
    | zero => intro f b _ _ _ _ hx; exact absurd hx (fun z => by cases z)
    | succ k ih =>
      intro f b hr h0 hd hb hx
      have n3 := hr.2.2.1
      have hn := hr.1
      have e0 : grM (k + 1) f n R b = if n ≤ b ∨ ¬ f 136 18 = 0 ∨ ¬ f 136 19 = 0 then some f else grM k (gI f n R b).1 n R (gI f n R b).2 := rfl
      rw [hx] at e0
      by_cases c0 : n ≤ b ∨ ¬ f 136 18 = 0 ∨ ¬ f 136 19 = 0
      · rw [if_pos c0] at e0
        have e1 : g = f := Option.some.inj e0
        have fin : mm_go E Γ 4 88 [(0, mm_rf E 136), (1, .int (nI b - 1))] [] w f 0 0 := s_MD_go_88 h he (Nat.le_refl _) (Nat.le_refl _) hw (by rw [e1]; exact mm_Pr)
        have no : ¬ f 136 10 - 1 ≤ nI b - 1 → f 136 18 = 0 → f 136 19 = 0 → False := fun q1 q2 q3 => by
          rw [hn, mI_le (by omega) (by omega)] at q1
          rcases c0 with z | z | z
          · exact q1 z
          · exact z q2
          · exact z q3
        exact s_MD_go_2 (vl0 := 0) (vc0 := 0) (vs0 := 0) (P0 := fun _ _ _ => False) h hw (fun _ => fin) (fun _ _ => fin) (fun _ _ _ => fin) (by omega) (by omega) (by omega) (fun q1 q2 q3 => (no q1 q2 q3).elim) (fun q1 q2 q3 => (no q1 q2 q3).elim)
      · rw [if_neg c0] at e0
        have hbn : b < n := Nat.lt_of_not_le fun z => c0 (Or.inl z)
        have c18 : f 136 18 = 0 := Decidable.byContradiction fun z => c0 (Or.inr (Or.inl z))
        have c19 : f 136 19 = 0 := Decidable.byContradiction fun z => c0 (Or.inr (Or.inr z))
        refine s_MD_go_2 (vl0 := 0) (vc0 := 0) (vs0 := 0) h hw (fun q => ?_) (fun _ q => absurd c18 q) (fun _ _ q => absurd c19 q) (by omega) (by omega) (by omega) (fun _ _ _ => c_MD_waiting hw hn n3 (mI_1 b) (by omega)) (fun _ _ _ => ?_)
        · rw [hn, mI_le (by omega) (by omega)] at q; omega
        rintro _ _ _ ⟨rfl, rfl, rfl⟩
        refine s_MD_go_31 (vl0 := 0) (vc0 := 0) (vs0 := 0) h hw (by omega) (by omega) (by omega) (c_MD_satisfied hw hn n3 (mI_1 b) (by omega) (fun s s1 s2 s3 => ?_)) ?_
        · obtain ⟨a, v, q1, q2, _, _, _, _, _, o67, _⟩ := hr.q s1 s2
          exact ⟨a, o67 (Or.inr s3), q1⟩
        rintro _ _ _ ⟨rfl, rfl, rfl⟩
        have ihn : ∀ (g' : mm_F) b', gI f n R b = (g', b') → ∀ x2 x3 : Int32, mm_go E Γ 4 85 [(0, mm_rf E 136), (1, .int (nI b' - 1)), (2, .int x2), (3, .int x3)] [] w g' 0 0 := fun g' b' e x2 x3 => by
          have r1 := hr.of (gI_fr f n R b)
          have r2 := gI_RD hr h0 hd hbn
          have r3 := gI_b hr hbn
          have r4 : ¬ (gI f n R b).1 143 0 = 5 := by rw [(gI_fr f n R b).row (a := 143) (by omega) (by omega)]; exact h0
          rw [e] at r1 r2 r3 r4 e0
          exact s_MD_go_85 h hw (ih g' b' r1 r4 r2 r3 e0.symm)
        have hI : gI f n R b = if ¬ sfF f b n ≤ wtF f b n then (f, (sfF f b n).toNatClampNeg + 1) else if ¬ wtF f b n < 0 then (foF f n R (wtF f b n).toNatClampNeg, b)
          else if b = 0 then ((bgF f n R).1, if (bgF f n R).2 = 0 then 1 else 0) else (csF f n b, b + 1) := rfl
        refine s_MD_go_37 (vl0 := 3) (vc0 := 0) (vs0 := 0) (vl1 := 3) (vc1 := 0) (vs1 := 0) (vl2 := 3) (vc2 := 0) (vs2 := 0) (P0 := mm_P (some (.int (bgF f n R).2)) w (bgF f n R).1) (P1 := mm_P none w (csF f n b)) (P2 := mm_P none w (foF f n R (wtF f b n).toNatClampNeg)) h hw (by omega) (by omega) (by omega) (fun _ _ _ => c_MD_begin hw hr hd) (fun q1 q2 q3 => ?_) (by omega) (by omega) (by omega) (fun _ _ _ => by rw [mI_1]; exact c_MD_close hw hr hd hbn) (fun q1 q2 q3 => ?_) (by omega) (by omega) (by omega) (fun q1 q2 => ?_) (fun q1 q2 => ?_) (fun q1 => ?_)
        · rw [mI_lt0 (by omega)] at q3
          rw [if_neg (fun z => z q1), if_neg (fun z => z q2), if_pos q3] at hI
          rintro _ _ _ ⟨rfl, rfl, rfl⟩
          refine s_MD_go_80 h hw (fun q => ?_) (fun q => ?_)
          · rw [if_neg q] at hI
            rw [q3]
            exact ihn _ _ hI _ _
          · rw [if_pos q] at hI
            exact ihn _ _ hI _ _
        · rw [mI_lt0 (by omega)] at q3
          rw [if_neg (fun z => z q1), if_neg (fun z => z q2), if_neg q3] at hI
          rintro _ _ _ ⟨rfl, rfl, rfl⟩
          rw [mI_1]
          have := ihn _ _ hI (wtF f b n) (sfF f b n)
          rw [nI_pred] at this
          exact s_MD_go_73 h hw this
        · obtain ⟨s, s1, s2, s3, s4⟩ := wtF_ok q2 (by omega) (by omega)
          rw [s4, nI_clamp (by omega)]
          exact c_MD_follow hw hr hd (src_op hr h0 s2 s3) s2 s3
        · rw [if_neg (fun z => z q1), if_pos q2] at hI
          rintro _ _ _ ⟨rfl, rfl, rfl⟩
          exact s_MD_go_57 h hw (ihn _ _ hI _ _)
        · rw [if_pos q1] at hI
          obtain ⟨s, s1, s2, s3, s4, s5⟩ := sfF_ok q1 (by omega) (by omega)
          have := ihn _ _ hI (wtF f b n) (sfF f b n)
          rw [s5, nI_clamp (by omega), nI_pred] at this
          rw [s5]
          exact this
  exact s_MD_go_0 h hw (loop K f 0 hr h0 hd (by omega) hg)
def gdL (f : mm_F) (k : Nat) : mm_F := fun a j => if (a = 147 ∨ a = 148 ∨ a = 149) ∧ j < k then 0 else f a j
theorem gdL_step (f : mm_F) (k : Nat) : mm_up (mm_up (mm_up (gdL f k) 147 k 0) 148 k 0) 149 k 0 = gdL f (k + 1) := by
  funext a j
  unfold mm_up gdL
  by_cases h1 : a = 149 ∧ j = k
  · rw [if_pos h1, if_pos (by omega)]
  · rw [if_neg h1]
    by_cases h2 : a = 148 ∧ j = k
    · rw [if_pos h2, if_pos (by omega)]
    · rw [if_neg h2]
      by_cases h3 : a = 147 ∧ j = k
      · rw [if_pos h3, if_pos (by omega)]
      · rw [if_neg h3]
        by_cases h4 : (a = 147 ∨ a = 148 ∨ a = 149) ∧ j < k
        · rw [if_pos h4, if_pos (by omega)]
        · rw [if_neg h4, if_neg (by omega)]
theorem c_MD_ready {x : Int32} (hw : mm_sh w) : mm_C E y_MD_ready b_MD_ready 3 none 0 0 0 [mm_rf E 136, .int x] w f (mm_P none w (gdF f x)) := by
  refine mm_start (by decide) rfl (Nat.le_of_ble_eq_true rfl) fun Γ h he => ?_
  have i40 : (40 : Int32) = nI 40 := rfl
  have hx : gdF f x = gdL (mm_up (mm_up (mm_up (mm_up (mm_up (mm_up f 136 16 x) 136 17 0) 136 18 0) 136 19 0) 136 28 0) 136 30 0) 40 := rfl
  refine s_MD_ready_0 h hw ?_
  generalize mm_up (mm_up (mm_up (mm_up (mm_up (mm_up f 136 16 x) 136 17 0) 136 18 0) 136 19 0) 136 28 0) 136 30 0 = g at hx
  have loop : ∀ d k, k + d = 40 → mm_go E Γ 3 32 [(0, mm_rf E 136), (1, .int x), (2, .int (nI k))] [] w (gdL g k) 0 0 := by
    intro d
    induction d with
    | zero =>
      intro k hk
      have : k = 40 := by omega
      subst this
      refine s_MD_ready_32 h he (Nat.le_refl _) (Nat.le_refl _) hw (fun _ => by rw [hx]; exact mm_Pr) (fun q => ?_) (fun q => ?_)
      all_goals exact absurd (Int32.le_refl _) q
    | succ d ih =>
      intro k hk
      refine s_MD_ready_32 h he (Nat.le_refl _) (Nat.le_refl _) hw (fun q => ?_) (fun _ => mm_inI (by omega) (by omega)) (fun _ => ?_)
      · rw [i40, nI_leI (by omega) (by omega)] at q; omega
      · rw [nI_clamp (by omega), nI_1, gdL_step]
        exact ih (k + 1) (by omega)
  have g0 : gdL g 0 = g := by
    funext a j
    unfold gdL
    rw [if_neg (by omega)]
  have := loop 40 0 (by omega)
  rw [g0] at this
  exact this
/-- the memory at the start of a run -/
def r0F (f : mm_F) (W m : Nat) (cl : Nat → Nat) (x : Int32) : mm_F := gdF (mm_up (mm_up (rpF f W m cl) 136 0 0) 136 30 0) x
/-- the memory behind a run -/
def r1F (g : mm_F) : mm_F × Int32 :=
  if g 136 18 = 0 then (if g 136 19 = 0 then (mm_up (mm_up g 136 0 0) 136 29 (g 136 17), g 136 30 / g 136 15) else (mm_up (mm_up g 136 0 3) 136 30 0, 0)) else (mm_up (mm_up g 136 0 2) 136 30 0, 0)
theorem c_MD_run_bad {W : Nat} {x : Int32} (hw : mm_sh w) (hf : Mk f W m cl) (hb : 0 ≤ (rpF f W m cl) 136 11 ∨ ¬ 0 ≤ x) : mm_C E y_MD_run b_MD_run 2 (some .int) 5 0 0 [mm_rf E 136, .int x] w f (mm_P (some (.int 0)) w (mm_up (mm_up (rpF f W m cl) 136 0 1) 136 30 0)) := by
  refine mm_start (by decide) rfl (Nat.le_of_ble_eq_true rfl) fun Γ h he => ?_
  refine s_MD_run_0 (vl0 := 3) (vc0 := 0) (vs0 := 0) h hw (by omega) (by omega) (by omega) (c_MD_readPlan hw hf) ?_
  rintro _ _ _ ⟨rfl, rfl, rfl⟩
  have fin : mm_go E Γ 2 16 [(0, mm_rf E 136), (1, .int x)] [mm_rf E 136] w (rpF f W m cl) 0 0 := by
    refine s_MD_run_16 h hw ?_
    have e : ¬ (mm_up (mm_up (rpF f W m cl) 136 0 1) 136 30 0) 136 0 ≤ 0 := by rw [mm_up_ne _ _ (by omega), mm_up_eq]; decide
    exact s_MD_run_21 (vl0 := 0) (vc0 := 0) (vs0 := 0) (P0 := fun _ _ _ => False) h he (Nat.le_refl _) (Nat.le_refl _) hw (by omega) (by omega) (by omega) (fun q => absurd q e) (fun q => absurd q e) (fun _ => mm_Pr)
  refine s_MD_run_4 h hw (fun _ => fin) (fun q1 q2 => ?_) (fun _ _ => fin)
  rcases hb with z | z
  · exact absurd z q1
  · exact absurd q2 z
theorem c_MD_run_ok {W K : Nat} {x : Int32} {g : mm_F} (hw : mm_sh w) (hf : Mk f W m cl) (hb : ¬ 0 ≤ (rpF f W m cl) 136 11) (hx : 0 ≤ x) (hr : RS (r0F f W m cl x) n m R cl) (h0 : ¬ (r0F f W m cl x) 143 0 = 5) (hd : RD (r0F f W m cl x)) (hg : grM K (r0F f W m cl x) n R 0 = some g) (hz : ¬ g 136 15 = 0) : mm_C E y_MD_run b_MD_run 2 (some .int) 5 0 0 [mm_rf E 136, .int x] w f (mm_P (some (.int (r1F g).2)) w (r1F g).1) := by
  refine mm_start (by decide) rfl (Nat.le_of_ble_eq_true rfl) fun Γ h he => ?_
  refine s_MD_run_0 (vl0 := 3) (vc0 := 0) (vs0 := 0) h hw (by omega) (by omega) (by omega) (c_MD_readPlan hw hf) ?_
  rintro _ _ _ ⟨rfl, rfl, rfl⟩
  refine s_MD_run_4 h hw (fun q => absurd q hb) (fun _ _ => ?_) (fun _ q => absurd hx q)
  have e : (mm_up (mm_up (rpF f W m cl) 136 0 0) 136 30 0) 136 0 ≤ 0 := by rw [mm_up_ne _ _ (by omega), mm_up_eq]; exact Int32.le_refl _
  refine s_MD_run_21 (vl0 := 0) (vc0 := 0) (vs0 := 0) h he (Nat.le_refl _) (Nat.le_refl _) hw (by omega) (by omega) (by omega) (fun _ => c_MD_ready hw) (fun _ => ?_) (fun q => absurd e q)
  show ∀ r w1 f1, mm_P none w (r0F f W m cl x) r w1 f1 → _
  rintro _ _ _ ⟨rfl, rfl, rfl⟩
  refine s_MD_run_43 (vl0 := 4) (vc0 := 0) (vs0 := 0) h hw (by omega) (by omega) (by omega) (c_MD_go hw hr h0 hd hg) ?_
  rintro _ _ _ ⟨rfl, rfl, rfl⟩
  have hy : r1F g = if g 136 18 = 0 then (if g 136 19 = 0 then (mm_up (mm_up g 136 0 0) 136 29 (g 136 17), g 136 30 / g 136 15) else (mm_up (mm_up g 136 0 3) 136 30 0, 0)) else (mm_up (mm_up g 136 0 2) 136 30 0, 0) := rfl
  have bad : ∀ c : Int32, ¬ c ≤ 0 → r1F g = (mm_up (mm_up g 136 0 c) 136 30 0, 0) → mm_go E Γ 2 71 [(0, mm_rf E 136), (1, .int x)] [.int c, mm_rf E 136] w g 0 0 := fun c hc e => by
    have e1 : ¬ (mm_up g 136 0 c) 136 0 ≤ 0 := by rw [mm_up_eq]; exact hc
    exact s_MD_run_71 h he (Nat.le_refl _) (Nat.le_refl _) hw (fun q => absurd q e1) (fun q => absurd q e1) (fun _ => by rw [e]; exact mm_Pr)
  refine s_MD_run_47 h hw (fun q1 q2 => ?_) (fun q1 q2 => ?_) (fun q1 => ?_)
  · rw [if_pos q1, if_pos q2] at hy
    have o : ∀ j, ¬ j = 0 → ¬ j = 29 → (mm_up (mm_up g 136 0 0) 136 29 ((mm_up g 136 0 0) 136 17)) 136 j = g 136 j := fun j h1 h2 => by rw [mm_up_ne _ _ (by omega), mm_up_ne _ _ (by omega)]
    refine s_MD_run_71 h he (Nat.le_refl _) (Nat.le_refl _) hw (fun _ => by rw [o 15 (by omega) (by omega)]; exact hz) (fun _ => ?_) (fun q => absurd (by rw [mm_up_eq]; exact Int32.le_refl _) q)
    rw [o 15 (by omega) (by omega), o 30 (by omega) (by omega), mm_up_ne (c := 136) (k := 17) _ _ (by omega), hy]
    exact mm_Pr
  · rw [if_pos q1, if_neg q2] at hy
    exact bad 3 (by decide) hy
  · rw [if_neg q1] at hy
    exact bad 2 (by decide) hy
end CMD9
