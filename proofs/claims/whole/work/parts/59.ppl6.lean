/-! Pure: the whole look at a plan, class beside reference. -/
theorem stF_0 {f : mm_F} {s : Nat} (hc : f 53 4 = nI s) (hs : 1 ≤ s) (hs2 : s ≤ 100) : (stF f) 56 = f 56 ∧ (stF f) 53 4 = nI (s + 1) := by
  have es : (nI s).toNatClampNeg = s := nI_clamp (by omega)
  have e : stF f = stF2 (mm_up (nx (bsF f) 3 10).1 (56 + 2 * s) 0 (nx (bsF f) 3 10).2) (nx (bsF f) 3 10).2 := by
    unfold stF
    rw [hc, es]
  have hb : bsF f = mm_up (mm_up (mm_up f (56 + 2 * s) 1 (f 53 6)) (56 + 2 * s) 2 (f 53 3)) 53 4 (nI (s + 1)) := by
    unfold bsF
    rw [hc, es, nI_1]
  have fr := (nx_fr (bsF f) 3 10)
  rw [e]
  constructor
  · funext j
    rw [stF2_fr _ _ 56 j (by omega), mm_up_ne _ _ (by omega), fr 56 j (by omega), hb, mm_up_ne _ _ (by omega), mm_up_ne _ _ (by omega), mm_up_ne _ _ (by omega)]
  · rw [stF2_fr _ _ 53 4 (by omega), mm_up_ne _ _ (by omega), fr 53 4 (by omega), hb, mm_up_eq]
theorem itS_0 : ∀ (j : Nat) {f : mm_F} {s : Nat}, f 53 4 = nI s → 1 ≤ s → s + j ≤ 100 → (itS j f) 56 = f 56
  | 0, _, _, _, _, _ => rfl
  | j + 1, f, s, hc, h1, h2 => by
    obtain ⟨a, b⟩ := stF_0 hc h1 (by omega)
    unfold itS
    split
    · rfl
    · split
      · rw [itS_0 j b (by omega) (by omega)]; exact a
      · rfl
theorem rpL_0 {W m : Nat} {cl : Nat → Nat} : ∀ (k : Nat) {g : mm_F} {p s : Nat}, g 136 10 = nI s → 1 ≤ s → s + k ≤ 100 → (rpL W m cl k g p) 143 0 = g 143 0 ∧ (rpL W m cl k g p) 144 0 = g 144 0
  | 0, _, _, _, _, _, _ => ⟨rfl, rfl⟩
  | k + 1, g, p, s, hc, h1, h2 => by
    have es : (nI s).toNatClampNeg = s := nI_clamp (by omega)
    unfold rpL
    rw [hc, es]
    split
    · split
      · have rf := rsF_fr (rpS g s p (g 142 p)) W m cl (g 142 p) (p + 1)
        have e : (rsF (rpS g s p (g 142 p)) W m cl (g 142 p) (p + 1)).1 136 10 = nI (s + 1) := by
          rw [rf 136 10 (by omega)]
          unfold rpS
          rw [mm_up_eq]
        obtain ⟨a, b⟩ := rpL_0 k (p := (rsF (rpS g s p (g 142 p)) W m cl (g 142 p) (p + 1)).2) e (by omega) (by omega)
        rw [a, b, rf 143 0 (by omega), rf 144 0 (by omega)]
        unfold rpS
        constructor
        · rw [mm_up_ne _ _ (by omega), mm_up_ne _ _ (by omega), mm_up_ne _ _ (by omega), mm_up_ne _ _ (by omega)]
        · rw [mm_up_ne _ _ (by omega), mm_up_ne _ _ (by omega), mm_up_ne _ _ (by omega), mm_up_ne _ _ (by omega)]
      · exact ⟨dm_fr _ _ _ _ 143 0 (by omega), dm_fr _ _ _ _ 144 0 (by omega)⟩
    · exact ⟨rfl, rfl⟩
/-- class and reference find the same fault, or the same steps -/
theorem look_alike {f g : mm_F} {W m : Nat} {cl : Nat → Nat} (hs : kS f g W m cl) :
    kB (ltF f) (rpF g W m cl) ∨ ∃ k t p N P V, gsr f W m cl k t p ∧ P 1 = p ∧ V 1 = cl t ∧ 1 ≤ N ∧ N + 1 ≤ W ∧ P N = W ∧ kO (ltF f) (rpF g W m cl) W W (V N) ∧ (ltF f) 53 4 = nI N ∧ (rpF g W m cl) 136 10 = nI N ∧ kL f (ltF f) (rpF g W m cl) W m cl P V N ∧ (ltF f) 56 0 = k ∧ (ltF f) 56 1 = 0 ∧ (ltF f) 56 2 = 0 ∧ (rpF g W m cl) 143 0 = k ∧ (rpF g W m cl) 144 0 = 1 := by
  have hx : ltF f = itS 38 (srF (mm_up (mm_up (mm_up (mm_up f 53 2 (-1)) 53 3 0) 53 4 0) 53 6 0)) := rfl
  have hy0 : rp0 g W m cl = rso (mm_up (mm_up (mm_up g 136 11 (-1)) 136 10 1) 136 15 0) W m cl := rfl
  have hy : rpF g W m cl = rpL W m cl 40 (rp0 g W m cl) (if (rp0 g W m cl) 143 0 = 2 then 5 else 2) := rfl
  have pa : pfr f (mm_up (mm_up (mm_up (mm_up f 53 2 (-1)) 53 3 0) 53 4 0) 53 6 0) := (((pfr.up (by omega)).tr (pfr.up (by omega))).tr (pfr.up (by omega))).tr (pfr.up (by omega))
  have pb : rfr g (mm_up (mm_up (mm_up g 136 11 (-1)) 136 10 1) 136 15 0) := ((rfr.up (by omega)).tr (rfr.up (by omega))).tr (rfr.up (by omega))
  have ka : kO (mm_up (mm_up (mm_up (mm_up f 53 2 (-1)) 53 3 0) 53 4 0) 53 6 0) (mm_up (mm_up (mm_up g 136 11 (-1)) 136 10 1) 136 15 0) W 0 0 :=
    ⟨by rw [mm_up_ne _ _ (by omega), mm_up_ne _ _ (by omega), mm_up_ne _ _ (by omega), mm_up_eq], by rw [mm_up_ne _ _ (by omega), mm_up_ne _ _ (by omega), mm_up_eq]; decide, mm_up_eq _ _ _ _, by omega, by rw [mm_up_ne _ _ (by omega), mm_up_ne _ _ (by omega), mm_up_eq]; rfl, mm_up_eq _ _ _ _, by omega⟩
  have ca : (mm_up (mm_up (mm_up (mm_up f 53 2 (-1)) 53 3 0) 53 4 0) 53 6 0) 53 4 = 0 := by rw [mm_up_ne _ _ (by omega), mm_up_eq]
  have cb : (rp0 g W m cl) 136 10 = nI 1 := by rw [hy0, rso_s, mm_up_ne _ _ (by omega), mm_up_eq]; rfl
  have sa := hs.of2 pa pb
  have fr1 := srF_fr (c := 0) ca (by omega)
  have W2 := hs.2.1
  have m4 := hs.2.2.2.2.1
  have src := source_alike sa ka ca
  rw [← hy0] at src
  have so := sa.of2 fr1 (rso_fr (W := W) (m := m) (cl := cl) _)
  rw [← hy0] at so
  generalize mm_up (mm_up (mm_up (mm_up f 53 2 (-1)) 53 3 0) 53 4 0) 53 6 0 = a at *
  generalize rp0 g W m cl = r at *
  rcases src with z | ⟨k, t, p, z1, z2, z3, z4, z5, z6, z7, z8⟩
  · left
    rw [hx, hy, itS_bad _ z.cb, rpL_bad _ z.rb]; exact z
  · have gs : gsr f W m cl k t p := by
      obtain ⟨y1, y2, y3, y4⟩ := z2
      rw [pa 54 1 (by omega) (by omega)] at y2
      rw [pa 54 0 (by omega) (by omega)] at y3
      refine ⟨y1, y2, y3, ?_⟩
      rcases y4 with y | ⟨u1, u2, d, u3, u4, u5⟩
      · exact Or.inl y
      · rw [pa 54 2 (by omega) (by omega)] at u4
        rw [pa (5 + 12 * t) d (by omega) (by omega)] at u5
        exact Or.inr ⟨u1, u2, d, u3, u4, u5⟩
    have ep : (if r 143 0 = 2 then 5 else 2) = p := by
      rw [z7]
      rcases gs.2.2.2 with ⟨y1, y2⟩ | ⟨y1, y2, _⟩
      · rw [y1, y2, if_neg (by decide)]
      · rw [y1, y2, if_pos rfl]
    have p2 : 2 ≤ p := by
      rcases gs.2.2.2 with ⟨y1, y2⟩ | ⟨y1, y2, _⟩ <;> omega
    rw [ep] at hy
    have st := steps_alike (f0 := f) (W - p) 38 40 (srF a) r p (cl t) 1 (fun _ => p) (fun _ => cl t) (by omega) (by omega) (by omega) so (pa.tr fr1) z1 z3 cb (by omega) (by omega) rfl rfl (fun i i1 i2 => by omega)
    have k56 := itS_0 38 (f := srF a) (s := 1) z3 (by omega) (by omega)
    have k143 := rpL_0 (W := W) (m := m) (cl := cl) 40 (p := p) cb (by omega) (by omega)
    rw [← hx] at st k56
    rw [← hy] at st k143
    rcases st with y | ⟨N, P, V, y1, y2, y3, y4, y5, y6, y7, y8⟩
    · exact Or.inl y
    · right
      refine ⟨k, t, p, N, P, V, gs, (y8 1 (by omega)).1, (y8 1 (by omega)).2, y4, y5, y6, y1, y2, y3, y7, ?_, ?_, ?_, ?_, ?_⟩
      · rw [k56]; exact z4
      · rw [k56]; exact z5
      · rw [k56]; exact z6
      · rw [k143.1]; exact z7
      · rw [k143.2]; exact z8
