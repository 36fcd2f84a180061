/-! Pure: the run's start: class and reference stand alike. -/
theorem ltF_fr (f : mm_F) : pfr f (ltF f) := by
  unfold ltF
  have pa : pfr f (mm_up (mm_up (mm_up (mm_up f 53 2 (-1)) 53 3 0) 53 4 0) 53 6 0) := (((pfr.up (by omega)).tr (pfr.up (by omega))).tr (pfr.up (by omega))).tr (pfr.up (by omega))
  generalize hh : mm_up (mm_up (mm_up (mm_up f 53 2 (-1)) 53 3 0) 53 4 0) 53 6 0 = h at pa
  have h4 : h 53 4 = nI 0 := by rw [← hh, mm_up_ne _ _ (by omega), mm_up_eq]; rfl
  have s4 : (srF h) 53 4 = nI 1 := by
    unfold srF
    rw [srF2_fr _ _ 53 4 (by omega), mm_up_ne _ _ (by omega), nx_fr _ _ _ 53 4 (by omega)]
    unfold bsF
    rw [mm_up_eq, h4]; rfl
  exact (pa.tr (srF_fr h4 (by omega))).tr (itS_fr 38 s4 (by omega))
theorem itB_at (f : mm_F) {N i j : Nat} (hi : i < N) : (itB N f) (56 + 2 * i) j = (beF (itB i f) i) (56 + 2 * i) j := by
  induction N with
  | zero => omega
  | succ k ih =>
    show (beF (itB k f) k) (56 + 2 * i) j = _
    by_cases e : i = k
    · rw [e]
    · rw [beF_fr _ _ _ _ (by omega)]
      exact ih (by omega)
theorem bwF_at {f : mm_F} {s t c m j : Nat} {lo hi : Int32} (h5 : ¬ j = 5) (h6 : ¬ j = 6) : (bwF f s t c m lo hi) (56 + 2 * s) j = f (56 + 2 * s) j := by
  unfold bwF
  rw [mm_up_ne _ _ (by omega), mm_up_ne _ _ (by omega)]
theorem b0F_at {f : mm_F} {s a j : Nat} (h : ¬ (a = 56 + 2 * s ∧ (j = 7 ∨ j = 8))) : (b0F f s) a j = f a j := by
  unfold b0F
  rw [mm_up_ne _ _ (by omega), mm_up_ne _ _ (by omega)]
theorem b0F_7 {f : mm_F} {s : Nat} : (b0F f s) (56 + 2 * s) 7 = 0 := by unfold b0F; rw [mm_up_ne _ _ (by omega), mm_up_eq]
theorem b0F_8 {f : mm_F} {s : Nat} : (b0F f s) (56 + 2 * s) 8 = 0 := by unfold b0F; rw [mm_up_eq]
theorem beF_8 (f : mm_F) (s : Nat) : (beF f s) (56 + 2 * s) 8 = 0 := by
  unfold beF
  split
  · rw [bwF_at (by omega) (by omega), mm_up_ne _ _ (by omega), mm_up_ne _ _ (by omega)]; exact b0F_8
  split
  · rw [bwF_at (by omega) (by omega), mm_up_ne _ _ (by omega), mm_up_ne _ _ (by omega)]; exact b0F_8
  split
  · rw [mm_up_ne _ _ (by omega), mm_up_ne _ _ (by omega), mm_up_ne _ _ (by omega)]; exact b0F_8
  split
  · rw [mm_up_ne _ _ (by omega)]; exact b0F_8
  · exact b0F_8
theorem beF_7 (f : mm_F) (s : Nat) (h : ¬ (f (56 + 2 * s) 0 = 6 ∨ f (56 + 2 * s) 0 = 7)) : (beF f s) (56 + 2 * s) 7 = 0 := by
  unfold beF
  split
  · rw [bwF_at (by omega) (by omega), mm_up_ne _ _ (by omega), mm_up_ne _ _ (by omega)]; exact b0F_7
  split
  · rw [bwF_at (by omega) (by omega), mm_up_ne _ _ (by omega), mm_up_ne _ _ (by omega)]; exact b0F_7
  split
  · rw [mm_up_ne _ _ (by omega), mm_up_ne _ _ (by omega), mm_up_ne _ _ (by omega)]; exact b0F_7
  · exact b0F_7
theorem beF_67 (f : mm_F) (s : Nat) (h : f (56 + 2 * s) 0 = 6 ∨ f (56 + 2 * s) 0 = 7) : (beF f s) (56 + 2 * s) 7 = wdF f s 1 := by
  unfold beF
  rw [if_neg (by rcases h with h | h <;> rw [h] <;> decide), if_neg (by rcases h with h | h <;> rw [h] <;> decide), if_neg (by rcases h with h | h <;> rw [h] <;> decide), if_pos h, mm_up_eq]
theorem beF_5 (f : mm_F) (s : Nat) (h : f (56 + 2 * s) 0 = 5) : (beF f s) (56 + 2 * s) 3 = wdF f s 1 ∧ (beF f s) (56 + 2 * s) 4 = wdF f s 2 ∧ (beF f s) (56 + 2 * s) 5 = f (4 + 12 * (wdF f s 1).toNatClampNeg) 1 := by
  unfold beF
  rw [if_neg (by rw [h]; decide), if_neg (by rw [h]; decide), if_pos h]
  refine ⟨?_, ?_, mm_up_eq _ _ _ _⟩
  · rw [mm_up_ne _ _ (by omega), mm_up_ne _ _ (by omega), mm_up_eq]
  · rw [mm_up_ne _ _ (by omega), mm_up_eq]
theorem beF_1 (f : mm_F) (s : Nat) (h : f (56 + 2 * s) 0 = 1) {T : mm_F} (hs : s < 39) {t M : Nat} (hw : wdF f s 1 = nI t) (ht : t < 4) (hM : f (4 + 12 * t) 1 = nI M) (hM2 : M ≤ 48) (he : ∀ x, 2 ≤ x ∧ x < 52 → f x = T x) : (beF f s) (56 + 2 * s) 3 = nI t ∧ (beF f s) (56 + 2 * s) 4 = 0 ∧ (beF f s) (56 + 2 * s) 5 = nI (tb_below T t 0 M (-2147483648)) ∧ (beF f s) (56 + 2 * s) 6 = 2147483647 := by
  have r : ∀ y, 2 ≤ y ∧ y < 52 → (mm_up (mm_up (b0F f s) (56 + 2 * s) 3 (nI t)) (56 + 2 * s) 4 0) y = T y := fun y hy => by
    rw [← he y hy]
    funext j
    rw [mm_up_ne _ _ (by omega), mm_up_ne _ _ (by omega), b0F_at (by omega)]
  unfold beF
  rw [if_pos h, hw, nI_clamp (by omega), hM, nI_clamp (by omega)]
  refine ⟨?_, ?_, ?_, ?_⟩
  · rw [bwF_at (by omega) (by omega), mm_up_ne _ _ (by omega), mm_up_eq]
  · rw [bwF_at (by omega) (by omega), mm_up_eq]
  · unfold bwF
    rw [mm_up_ne _ _ (by omega), mm_up_eq, tb_below_congr (r _ (by omega)) (r _ (by omega))]
  · unfold bwF
    rw [mm_up_eq]
theorem beF_2 (f : mm_F) (s : Nat) (h : f (56 + 2 * s) 0 = 2) {T : mm_F} (hs : s < 39) {t c M : Nat} (hw : wdF f s 1 = nI t) (hw2 : wdF f s 2 = nI c) (ht : t < 4) (hc : c < 4) (hM : f (4 + 12 * t) 1 = nI M) (hM2 : M ≤ 48) (he : ∀ x, 2 ≤ x ∧ x < 52 → f x = T x) : (beF f s) (56 + 2 * s) 3 = nI t ∧ (beF f s) (56 + 2 * s) 4 = nI c ∧ (beF f s) (56 + 2 * s) 5 = nI (tb_below T t c M (wdF f s 3)) ∧ (beF f s) (56 + 2 * s) 6 = wdF f s 4 := by
  have r : ∀ y, 2 ≤ y ∧ y < 52 → (mm_up (mm_up (b0F f s) (56 + 2 * s) 3 (nI t)) (56 + 2 * s) 4 (nI c)) y = T y := fun y hy => by
    rw [← he y hy]
    funext j
    rw [mm_up_ne _ _ (by omega), mm_up_ne _ _ (by omega), b0F_at (by omega)]
  unfold beF
  rw [if_neg (by rw [h]; decide), if_pos h, hw, hw2, nI_clamp (by omega), nI_clamp (by omega), hM, nI_clamp (by omega)]
  refine ⟨?_, ?_, ?_, ?_⟩
  · rw [bwF_at (by omega) (by omega), mm_up_ne _ _ (by omega), mm_up_eq]
  · rw [bwF_at (by omega) (by omega), mm_up_eq]
  · unfold bwF
    rw [mm_up_ne _ _ (by omega), mm_up_eq, tb_below_congr (r _ (by omega)) (r _ (by omega))]
  · unfold bwF
    rw [mm_up_eq]
theorem r0F_run (g : mm_F) (W m : Nat) (cl : Nat → Nat) (x : Int32) : (r0F g W m cl x) 136 16 = x ∧ (r0F g W m cl x) 136 17 = 0 ∧ (r0F g W m cl x) 136 18 = 0 ∧ (r0F g W m cl x) 136 19 = 0 ∧ (r0F g W m cl x) 136 28 = 0 ∧ (r0F g W m cl x) 136 30 = 0 ∧ ∀ a j, (a = 147 ∨ a = 148 ∨ a = 149) → j < 40 → (r0F g W m cl x) a j = 0 := by
  unfold r0F gdF
  refine ⟨?_, ?_, ?_, ?_, ?_, ?_, fun a j q1 q2 => by rw [if_pos ⟨q1, q2⟩]⟩
  · rw [if_neg (by omega), mm_up_ne _ _ (by omega), mm_up_ne _ _ (by omega), mm_up_ne _ _ (by omega), mm_up_ne _ _ (by omega), mm_up_ne _ _ (by omega), mm_up_eq]
  · rw [if_neg (by omega), mm_up_ne _ _ (by omega), mm_up_ne _ _ (by omega), mm_up_ne _ _ (by omega), mm_up_ne _ _ (by omega), mm_up_eq]
  · rw [if_neg (by omega), mm_up_ne _ _ (by omega), mm_up_ne _ _ (by omega), mm_up_ne _ _ (by omega), mm_up_eq]
  · rw [if_neg (by omega), mm_up_ne _ _ (by omega), mm_up_ne _ _ (by omega), mm_up_eq]
  · rw [if_neg (by omega), mm_up_ne _ _ (by omega), mm_up_eq]
  · rw [if_neg (by omega), mm_up_eq]
theorem i32_least (z : Int32) : ¬ z < -2147483648 := by
  rw [Int32.lt_iff_toInt_lt]
  have := Int32.le_toInt z
  have h : (-2147483648 : Int32).toInt = -2147483648 := by decide
  omega
theorem i32_most (z : Int32) : z ≤ 2147483647 := by
  rw [Int32.le_iff_toInt_le]
  have := Int32.toInt_lt z
  have h : (2147483647 : Int32).toInt = 2147483647 := by decide
  omega
theorem run_start {f g fA : mm_F} {n N m R W F t p : Nat} {cl nn P V : Nat → Nat} {k : Int32} (hs : kS f g W m cl) (hg : gsr f W m cl k t p) (hp : P 1 = p) (hV : V 1 = cl t) (hN : 1 ≤ N) (hN2 : N + 1 ≤ W) (hP : P N = W) (hO : kO (ltF f) (rpF g W m cl) W W (V N)) (hL : kL f (ltF f) (rpF g W m cl) W m cl P V N) (h0 : (ltF f) 56 0 = k) (h1 : (ltF f) 56 1 = 0) (h2 : (ltF f) 56 2 = 0) (hr0 : (rpF g W m cl) 143 0 = k)
    (hA : ∀ x, x < 134 → fA x = (ltF f) x) (o1 : fA 134 1 = 0) (o2 : fA 134 2 = 0) (hn : 153 ≤ n) (n3 : fA n 3 = nI F) (n4 : fA n 4 = 0) (hF : F < 2 ^ 31) (hT : TT g m nn cl) (hR : RT g m R nn cl) (he : ∀ x, 2 ≤ x ∧ x < 52 → f x = g x) :
    ∃ L, stt n N m R W F cl nn P V t L (itB N fA) (r0F g W m cl (nI F)) (N - 1) 0 0 ∧ ms n N F (itB N fA) (N - 1) 0 0 + 1 ≤ (F + 4) * 78 := by
  obtain ⟨L, hLL⟩ : ∃ L : Nat → Nat → List Nat, ∀ t, t < m → ∀ c, c < cl t → TC g t c (nn t) (L t c) := by
    have : ∀ t, ∃ Q : Nat → List Nat, t < m → ∀ c, c < cl t → TC g t c (nn t) (Q c) := fun t => by
      by_cases q : t < m
      · obtain ⟨_, _, _, _, _, Q, hQ⟩ := hT.2.2.1 t q
        exact ⟨Q, fun _ => hQ⟩
      · exact ⟨fun _ => [], fun z => absurd z q⟩
    exact ⟨fun t => Classical.choose (this t), fun t => Classical.choose_spec (this t)⟩
  refine ⟨L, ?_⟩
  obtain ⟨a1, a2, a3, a4, a5, a6, a7⟩ := id hs
  obtain ⟨g1, g2, g3, g4⟩ := id hg
  obtain ⟨T1, T2, T3, T4⟩ := id hT
  obtain ⟨R1, R2, R3, R4, R5, R6, R7, R8, R9, R10⟩ := id hR
  have hcl1 : ∀ t, t < m → 1 ≤ cl t := fun t ht => (T3 t ht).2.1
  obtain ⟨pv, pp⟩ := plan_facts hL hN hP (by rw [hV]; have := (a6 t g1).2.2; omega) (by rw [hV]; exact hcl1 t g1)
  have lf := ltF_fr f
  have rf := rpF_fr (W := W) (m := m) (cl := cl) g
  -- rows of the class
  have cA : ∀ i x j, ¬ (56 ≤ x ∧ x < 134 ∧ 3 ≤ j) → i ≤ 39 → (itB i fA) x j = fA x j := fun i x j q hi => itB_fr fA i x j (by omega)
  have cT : ∀ i x, i ≤ 39 → 2 ≤ x ∧ x < 52 → (itB i fA) x = g x := fun i x hi hx => by
    funext j
    rw [cA i x j (by omega) hi, hA x (by omega), lf x j (by omega) (by omega), he x hx]
  have c54 : ∀ i, i ≤ 39 → (itB i fA) 54 = f 54 := fun i hi => by
    funext j
    rw [cA i 54 j (by omega) hi, hA 54 (by omega), lf 54 j (by omega) (by omega)]
  have cS : ∀ i s j, i ≤ 39 → s < 39 → j < 3 → (itB i fA) (56 + 2 * s) j = (ltF f) (56 + 2 * s) j := fun i s j hi hs hj => by
    rw [cA i _ j (by omega) hi, hA _ (by omega)]
  -- rows of the reference
  have gr : ∀ x, (x < 136 ∨ (137 ≤ x ∧ x ≤ 142)) → (r0F g W m cl (nI F)) x = g x := fun x hx => funext fun j => by
    rw [r0F_row _ _ _ _ _ (by omega) (by omega) (by omega) (by omega), rf x j (by omega) (by omega) (by omega) (by omega)]
  have gs : ∀ x, 143 ≤ x → x ≤ 145 → (r0F g W m cl (nI F)) x = (rpF g W m cl) x := fun x h1 h2 => funext fun j => r0F_row _ _ _ _ _ (by omega) (by omega) (by omega) (by omega)
  obtain ⟨u16, u17, u18, u19, u28, u30, uz⟩ := r0F_run g W m cl (nI F)
  have w54 : ∀ i, i < W → (itB N fA) 54 i = (r0F g W m cl (nI F)) 142 i := fun i hi => by
    rw [c54 N (by omega), gr 142 (by omega)]; exact a3 i hi
  have hk12 : k = 1 ∨ k = 2 := by
    rcases g4 with ⟨z, _⟩ | ⟨z, _⟩
    · exact Or.inl z
    · exact Or.inr z
  have P1 := pp 1 (by omega) hN
  have hp2 : 2 ≤ p := by rcases g4 with ⟨_, z⟩ | ⟨_, z, _⟩ <;> omega
  have hc : cx n N m R W F cl nn P V t L (itB N fA) (r0F g W m cl (nI F)) := by
    refine ⟨⟨hn, hN, by omega, a5, R3, a2, hF⟩, ⟨?_, u16, ?_⟩, w54, fun x hx => ?_, fun u hu => ?_, fun i i1 i2 => ⟨(pv i i1 i2).1, (pv i i1 i2).2, pp i i1 i2⟩, ⟨g1, ?_, ?_, ?_, ?_, hV, ?_⟩, fun i i1 i2 => ?_⟩
    · rw [cA N n 3 (by omega) (by omega)]; exact n3
    · rw [cA N 53 3 (by omega) (by omega), hA 53 (by omega)]; exact hO.2.2.2.2.1
    · rw [cT N x (by omega) hx, gr x (by omega)]
    · obtain ⟨t1, t2, t3, t4, t5, _⟩ := T3 u hu
      refine ⟨by rw [cT N _ (by omega) (by omega)]; exact t1, t2, t3, by rw [cT N _ (by omega) (by omega)]; exact t4, t5, by rw [gr 137 (by omega)]; exact R5 u hu, (R8 u hu).congr (fun c hc => gr _ (by omega)) (gr 140 (by omega)) (gr 141 (by omega)), fun c hc => (hLL u hu c hc).congr (gr _ (by omega)) (gr _ (by omega)) (gr _ (by omega))⟩
    · rw [show (56 : Nat) = 56 + 2 * 0 from rfl, cS N 0 0 (by omega) (by omega) (by omega), gs 143 (by omega) (by omega), hr0]; exact h0
    · rw [gs 143 (by omega) (by omega), hr0]; exact hk12
    · rw [show (56 : Nat) = 56 + 2 * 0 from rfl, cS N 0 1 (by omega) (by omega) (by omega)]; exact h1
    · rw [show (56 : Nat) = 56 + 2 * 0 from rfl, cS N 0 2 (by omega) (by omega) (by omega)]; exact h2
    · rw [← w54 1 (by omega), c54 N (by omega)]; exact g2
    · obtain ⟨b1, b2, b3, b4, b5, b6⟩ := hL i i1 i2
      rw [cS N i 0 (by omega) (by omega) (by omega), cS N i 1 (by omega) (by omega) (by omega), cS N i 2 (by omega) (by omega) (by omega), gs 143 (by omega) (by omega), gs 144 (by omega) (by omega), gs 145 (by omega) (by omega)]
      exact ⟨b1, b2, b3, b4, b5, b6.congr a5 (c54 N (by omega)) (fun u hu => by rw [cT N _ (by omega) (by omega), he _ (by omega)])⟩
  have e8 : ∀ i, i < N → (itB N fA) (56 + 2 * i) 8 = 0 := fun i hi => by rw [itB_at fA hi]; exact beF_8 _ _
  have e7 : ∀ i, i < N → ¬ ((itB N fA) (56 + 2 * i) 0 = 6 ∨ (itB N fA) (56 + 2 * i) 0 = 7) → (itB N fA) (56 + 2 * i) 7 = 0 := fun i hi q => by
    rw [itB_at fA hi]
    refine beF_7 _ _ ?_
    rw [cS N i 0 (by omega) (by omega) (by omega)] at q
    rw [cS i i 0 (by omega) (by omega) (by omega)]; exact q
  have wd : ∀ i q, i ≤ 39 → i < N → 1 ≤ i → q ≤ 4 → wdF (itB i fA) i q = f 54 (P i + q) := fun i q hi hi2 h1 hq => by
    unfold wdF
    have := pp i h1 (by omega)
    rw [c54 i hi, cS i i 1 hi (by omega) (by omega), (hL i h1 hi2).2.1, nI_clamp (by omega)]
  have hSR : ∀ i, i < N → sr m cl nn P V t L (itB N fA) (r0F g W m cl (nI F)) i := fun i hi => by
    refine ⟨fun z => ?_, fun z => ?_, fun z => ?_, fun z => ?_, fun z => ?_⟩
    · subst z
      have i0 : ∀ j, (itB N fA) 56 j = (beF fA 0) (56 + 2 * 0) j := fun j => itB_at fA hi
      have k0 : fA (56 + 2 * 0) 0 = k := by rw [hA _ (by omega)]; exact h0
      have w0 : ∀ q, wdF fA 0 q = f 54 q := fun q => by
        unfold wdF
        rw [show fA 54 = f 54 from c54 0 (by omega), show fA (56 + 2 * 0) 1 = nI 0 by rw [hA _ (by omega)]; exact h1, nI_clamp (by omega), Nat.zero_add]
      have eT : ∀ x, 2 ≤ x ∧ x < 52 → fA x = g x := fun x hx => cT 0 x (by omega) hx
      obtain ⟨t1, t2, t3, t4, t5, _⟩ := T3 t g1
      have hM : fA (4 + 12 * t) 1 = nI (nn t) := by rw [eT _ (by omega)]; exact t4
      have sc : scF (r0F g W m cl (nI F)) = if k = 2 then ((r0F g W m cl (nI F)) 142 2).toNatClampNeg else 0 := by unfold scF; rw [gs 143 (by omega) (by omega), hr0]
      have sw : ∀ z, nsW (r0F g W m cl (nI F)) z = decide (k = 1 ∨ ¬ z < (r0F g W m cl (nI F)) 142 3 ∧ ¬ (r0F g W m cl (nI F)) 142 4 < z) := fun z => by unfold nsW; rw [gs 143 (by omega) (by omega), hr0]
      have tcg : ∀ c, c < cl t → TC (r0F g W m cl (nI F)) t c (nn t) (L t c) := fun c hc => (hLL t g1 c hc).congr (gr _ (by omega)) (gr _ (by omega)) (gr _ (by omega))
      have tbg : ∀ c low, c < cl t → tb_below g t c (nn t) low = tb_below (r0F g W m cl (nI F)) t c (nn t) low := fun c low hc => tb_below_congr (gr _ (by omega)).symm (gr _ (by omega)).symm
      rcases g4 with ⟨y1, y2⟩ | ⟨y1, y2, d, y3, y4, y5⟩
      · obtain ⟨z1, z2, z3, z4⟩ := beF_1 fA 0 (k0.trans y1) (by omega) (by rw [w0]; exact g2) (by omega) hM t5 eT
        refine ⟨0, tb_below g t 0 (nn t) (-2147483648), -2147483648, by omega, ?_, ?_, ?_, tb_below_le _ _ _ _ _, ?_, fun y => ?_, ?_⟩
        · rw [i0]; exact z1
        · rw [i0]; exact z2
        · rw [i0]; exact z3
        · rw [sc, y1]; rfl
        · rw [sw, i0, z4]
          exact ⟨fun _ => ⟨i32_least y, i32_most y⟩, fun _ => decide_eq_true (Or.inl y1)⟩
        · rw [tbg 0 _ (by omega)]
          exact sX_first (tcg 0 (by omega)) t5 u28
      · have hP5 : 5 ≤ W := by omega
        obtain ⟨z1, z2, z3, z4⟩ := beF_2 fA 0 (k0.trans y1) (by omega) (by rw [w0]; exact g2) (by rw [w0]; exact y4) (by omega) (by omega) hM t5 eT
        rw [w0] at z3 z4
        refine ⟨d, tb_below g t d (nn t) (f 54 3), f 54 3, y3, ?_, ?_, ?_, tb_below_le _ _ _ _ _, ?_, fun y => ?_, ?_⟩
        · rw [i0]; exact z1
        · rw [i0]; exact z2
        · rw [i0]; exact z3
        · rw [sc, if_pos y1, ← w54 2 (by omega), c54 N (by omega), y4, nI_clamp (by omega)]
        · rw [sw, i0, z4, ← w54 3 (by omega), ← w54 4 (by omega), c54 N (by omega)]
          refine ⟨fun q => ?_, fun q => decide_eq_true (Or.inr ⟨q.1, Int32.not_lt.mpr q.2⟩)⟩
          rcases of_decide_eq_true q with q | ⟨q1, q2⟩
          · rw [y1] at q; exact absurd q (by decide)
          · exact ⟨q1, Int32.not_lt.mp q2⟩
        · rw [tbg d _ y3]
          exact sX_first (tcg d y3) t5 u28
    · rw [gs 143 (by omega) (by omega)] at z
      have i1 : 1 ≤ i := by
        by_cases e : i = 0
        · rw [e, hr0] at z
          rcases hk12 with y | y <;> rw [y] at z <;> exact absurd z (by decide)
        · omega
      obtain ⟨b1, b2, b3, b4, b5, b6⟩ := hL i i1 hi
      obtain ⟨p1, u, d, c, c1, c2, c3, c4, c5, c6, c7, c8, c9⟩ := b6.k5 z
      obtain ⟨t1, t2, t3, t4, t5, _⟩ := T3 u c1
      obtain ⟨z1, z2, z3⟩ := beF_5 (itB i fA) i (by rw [cS i i 0 (by omega) (by omega) (by omega), b1]; exact z)
      rw [wd i 1 (by omega) hi i1 (by omega), c4] at z1 z3
      rw [wd i 2 (by omega) hi i1 (by omega)] at z2
      refine ⟨u, d, c, nn u, c1, c2, c3, ?_, ?_, ?_, c7, ?_, ?_, ?_, Nat.le_refl _, fun _ h => ?_, fun q => absurd (uz 149 i (by omega) (by omega)) q⟩
      · rw [c54 N (by omega)]; exact c4
      · rw [c54 N (by omega)]; exact c5
      · rw [c54 N (by omega)]; exact c6
      · rw [itB_at fA hi]; exact z1
      · rw [itB_at fA hi, z2]; exact c5
      · rw [itB_at fA hi, z3, nI_clamp (by omega), cT i _ (by omega) (by omega)]; exact t4
      · have := (hLL u c1 d c2).1; omega
    · rw [gs 143 (by omega) (by omega)] at z
      have i1 : 1 ≤ i := by
        by_cases e : i = 0
        · rw [e, hr0] at z
          rcases hk12 with y | y <;> rw [y] at z <;> exact absurd z (by decide)
        · omega
      obtain ⟨b1, b2, b3, b4, b5, b6⟩ := hL i i1 hi
      obtain ⟨p1, p2, p3⟩ := b6.k67 z
      have z1 := beF_67 (itB i fA) i (by rw [cS i i 0 (by omega) (by omega) (by omega), b1]; exact z)
      rw [wd i 1 (by omega) hi i1 (by omega)] at z1
      have nn0 : 0 ≤ (f 54 (P i + 1)).toInt := by
        rw [Int32.lt_iff_toInt_lt, Int32.toInt_zero] at p3
        omega
      have wv := Int32.toInt_lt (f 54 (P i + 1))
      have we : f 54 (P i + 1) = nI (f 54 (P i + 1)).toInt.toNat := by
        apply Int32.toInt_inj.mp
        rw [nI_toInt (by omega)]; omega
      refine ⟨(f 54 (P i + 1)).toInt.toNat, 0, ?_, by omega, by omega, ?_, ?_⟩
      · rw [c54 N (by omega)]; exact we
      · exact uz 147 i (by omega) (by omega)
      · rw [itB_at fA hi, z1, Nat.sub_zero]; exact we
    · rw [uz 147 i (by omega) (by omega)]
      refine e7 i hi ?_
      rw [gs 143 (by omega) (by omega)] at z
      rw [cS N i 0 (by omega) (by omega) (by omega)]
      by_cases e : i = 0
      · rw [e, hr0] at z
        rcases hk12 with y | y <;> rw [y] at z <;> exact absurd z (by decide)
      · rw [(hL i (by omega) hi).1]
        rcases z with z | z <;> rw [z] <;> decide
    · rw [gs 143 (by omega) (by omega)] at z
      have t0 : (itB N fA) (56 + 2 * i) 7 = 0 := by
        refine e7 i hi ?_
        rw [cS N i 0 (by omega) (by omega) (by omega)]
        by_cases e : i = 0
        · rw [e, hr0] at z
          rcases hk12 with y | y <;> rw [y] at z <;> exact absurd z (by decide)
        · rw [(hL i (by omega) hi).1, z]; decide
      rw [uz 147 i (by omega) (by omega), uz 149 i (by omega) (by omega), t0]
      exact ⟨rfl, ⟨fun _ => rfl, fun _ => rfl⟩, fun q => absurd rfl q⟩
  have hn4 : (itB N fA) n 4 = 0 := by rw [cA N n 4 (by omega) (by omega)]; exact n4
  have hrm : rmF n F (itB N fA) = F := by unfold rmF; rw [hn4]; rfl
  have how : ∀ s, owF N (itB N fA) s ≤ (if kdF N (itB N fA) s = 8 ∨ kdF N (itB N fA) s = 9 then 1 else 0) := fun s => by
    unfold owF kdF
    by_cases q : s < N
    · rw [if_pos q, if_pos q]
      by_cases q10 : (itB N fA) (56 + 2 * s) 0 = 10
      · rw [if_pos q10, if_neg]
        · omega
        · exact fun z => z.1 (e7 s q (by rw [q10]; decide))
      · rw [if_neg q10]
        by_cases q8 : (itB N fA) (56 + 2 * s) 0 = 8 ∨ (itB N fA) (56 + 2 * s) 0 = 9
        · rw [if_pos q8, if_pos q8]; split <;> omega
        · rw [if_neg q8]; omega
    · rw [if_neg q]; omega
  have htv : tv n N F (itB N fA) 0 := fun i hi hk => by
    refine ⟨0, e7 (i + 1) hi (by rw [hk]; decide), ?_⟩
    unfold gmS
    rw [hrm, if_neg (by omega)]
    have := gm_first (r := F) how i
    omega
  refine ⟨⟨⟨hc, hSR, ⟨0, by omega, hn4, u17⟩, ⟨u18, u19⟩, 0, 0, ⟨?_, u30, by omega, fun j hj => by omega⟩, ?_, by omega⟩, by omega, fun i i1 i2 => by omega, Or.inl ⟨rfl, by omega, ⟨fun i _ hi => e8 i hi, fun z => by omega⟩, htv⟩⟩, ?_⟩
  · rw [cA N 134 1 (by omega) (by omega)]; exact o1
  · rw [cA N 134 2 (by omega) (by omega)]; exact o2
  · show 2 * sgS n N F (itB N fA) 0 + 4 * (N - 0) + 2 + (N - 1) + 1 ≤ (F + 4) * 78
    unfold sgS
    rw [hrm]
    have s1 := sg_first (r := F) how N
    have s2 : N * (F + 1) ≤ 39 * (F + 1) := Nat.mul_le_mul_right _ (by omega)
    omega
