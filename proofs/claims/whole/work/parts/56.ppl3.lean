/-! Pure: joins and steps of a plan, class beside reference. -/
theorem dm_and {x g : mm_F} {W p : Nat} {b b' : Bool} (h2 : g 136 11 < 0) (q : kB x (dm g W p b)) : dm g W p (b && b') = dm g W p b := by
  have n2 : ¬ 0 ≤ g 136 11 := Int32.not_le.mpr h2
  cases b with
  | false => rfl
  | true =>
    by_cases y : W ≤ p
    · unfold dm
      rw [if_neg n2, if_neg n2, if_pos y, if_pos y]
    · unfold dm at q
      rw [if_neg n2, if_neg y, if_pos rfl] at q
      exact absurd q.rb n2
theorem dm_take {g : mm_F} {W p : Nat} (h2 : g 136 11 < 0) (hp : p < W) : dm g W p true = g := by
  unfold dm
  rw [if_neg (Int32.not_le.mpr h2), if_neg (by omega), if_pos rfl]
theorem dm_not {g : mm_F} {W p : Nat} (h2 : g 136 11 < 0) (hp : p < W) : dm g W p false = mm_up g 136 11 (nI p) := by
  unfold dm
  rw [if_neg (Int32.not_le.mpr h2), if_neg (by omega), if_neg (by decide)]
theorem jn_rj {f g : mm_F} {W m p v : Nat} {cl : Nat → Nat} (hs : kS f g W m cl) (h : kO f g W p v) : (∃ p' v', kO (jnF f) (rjF g W m cl p).1 W p' v' ∧ (rjF g W m cl p).2 = p' ∧ gst f W m cl 5 p v p' v') ∨ kB (jnF f) (rjF g W m cl p).1 := by
  obtain ⟨_, a2, _, _, a5, a6, a7⟩ := id hs
  have h' := h
  obtain ⟨h1, h2, h3, h4, h5, h6, h7⟩ := h'
  have hX : jnF f = if (nx f 0 (f 2 1 - 1)).1 53 2 = -1 then jnF2 (nx f 0 (f 2 1 - 1)).1 (nx f 0 (f 2 1 - 1)).2.toNatClampNeg ((nx f 0 (f 2 1 - 1)).1 53 3 + (nx f 0 (f 2 1 - 1)).1 (4 + 12 * (nx f 0 (f 2 1 - 1)).2.toNatClampNeg) 0) else (nx f 0 (f 2 1 - 1)).1 := rfl
  have hY : rjF g W m cl p = if (dm g W p (rjB g m (wd g W p))) 136 11 < 0 then (rj2 (rj1 (dm g W p (rjB g m (wd g W p))) W p cl (wd g W p)) (wd g W p), p + 3) else (dm g W p (rjB g m (wd g W p)), p) := rfl
  have hB : rjB g m (wd g W p) = (inb (wd g W p) m && decide (¬ 8 < g 136 15 + g 137 (wd g W p).toNatClampNeg)) := rfl
  have i8 : (8 : Int32) = nI 8 := rfl
  rcases nx_dm hs h (nx_tab (v := v) hs) with ⟨q1, q2, q3, q4⟩ | ⟨q1, q2⟩
  · obtain ⟨et, t1⟩ := inb_nI q2 (by omega)
    have ew := wd_at hs q1
    generalize hT : (wd g W p).toNatClampNeg = t at et t1 hB
    rw [et] at hY hB
    have e54 : f 54 p = nI t := by rw [← ew]; exact et
    obtain ⟨b1, b2, b3⟩ := a6 t t1
    rw [← et, q2, Bool.true_and, h6, b2, nI_add, i8] at hB
    rw [← et] at hY
    have hX2 : jnF f = jnF2 (mm_up f 53 6 (nI (p + 1))) t (nI (v + cl t)) := by
      rw [hX, q3, e54]
      show (if mm_up f 53 6 (nI (p + 1)) 53 2 = -1 then jnF2 (mm_up f 53 6 (nI (p + 1))) (nI t).toNatClampNeg (mm_up f 53 6 (nI (p + 1)) 53 3 + mm_up f 53 6 (nI (p + 1)) (4 + 12 * (nI t).toNatClampNeg) 0) else mm_up f 53 6 (nI (p + 1))) = _
      rw [nI_clamp (by omega), mm_up_ne (c := 53) (k := 2) _ _ (by omega), if_pos h1, mm_up_ne (c := 53) (k := 3) _ _ (by omega), mm_up_ne (c := 4 + 12 * t) _ _ (by omega), h5, b1, nI_add]
    have hs1 : kS (mm_up f 53 6 (nI (p + 1))) g W m cl := hs.of (nfr.up (Or.inr (Or.inr rfl))) (rfi.rf g)
    have hn := h.next q1
    rw [hX2]
    unfold jnF2
    by_cases z : v + cl t ≤ 8
    · have z1 : nI (v + cl t) ≤ 8 := by rw [i8, nI_leI (by omega) (by omega)]; exact z
      have z2 : ¬ nI 8 < nI (v + cl t) := by rw [nI_ltI (by omega) (by omega)]; omega
      rw [decide_eq_true z2] at hB
      rw [hB, dm_take h2 q1, if_pos h2, et] at hY
      rw [if_pos z1, hY]
      unfold rj1 rj2
      rw [nI_clamp (by omega)]
      rcases nXi_ix hs1 hn t1 with ⟨y1, y2, d, y3, y4, y5⟩ | y
      · have hs2 := hs1.of (nXi_fr (mm_up f 53 6 (nI (p + 1))) t) (dm_fr g W (p + 1) (ixC g (nI t) (wd g W (p + 1)) (cl t)))
        have k137 : (rcl (dm g W (p + 1) (ixC g (nI t) (wd g W (p + 1)) (cl t))) W (p + 2)) 137 t = nI (cl t) := by
          rw [rcl_fr _ _ _ 137 t (by omega), dm_fr _ _ _ _ 137 t (by omega)]; exact b2
        rcases nC_rcl hs2 y1 with ⟨x1, x2, c, x3, x4⟩ | x
        · left
          refine ⟨p + 3, v + cl t, ?_, rfl, Or.inr (Or.inr (Or.inl ⟨rfl, rfl, t, d, c, t1, y3, x3, e54, ?_, ?_, rfl, z, ?_⟩))⟩
          · have := x1.wide z
            rw [show p + 1 + 1 = p + 2 by omega] at this ⊢
            show kO _ (mm_up _ 136 15 (_ + _)) W (p + 3) _
            rw [k137, (show (rcl (dm g W (p + 1) (ixC g (nI t) (wd g W (p + 1)) (cl t))) W (p + 2)) 136 15 = nI v by
              have := x1.2.2.2.2.2.1
              rw [show p + 1 + 1 = p + 2 by omega] at this
              exact this), nI_add]
            exact this
          · rw [← y4, mm_up_off _ _ (by omega)]
          · rw [← x4, (nXi_fr _ t).w54, mm_up_off _ _ (by omega)]
          · rw [mm_up_ne (c := 5 + 12 * t) _ _ (by omega)] at y5; exact y5
        · right
          rw [show p + 1 + 1 = p + 2 by omega] at x
          exact x.wide
      · right
        rw [nC_bad y.cb]
        have := rcl_bad (W := W) (p := p + 2) y.rb
        show kB _ (mm_up (rcl _ W (p + 2)) 136 15 _)
        rw [this]
        exact y.wide
    · have z1 : ¬ nI (v + cl t) ≤ 8 := by rw [i8, nI_leI (by omega) (by omega)]; exact z
      have z2 : nI 8 < nI (v + cl t) := by rw [nI_ltI (by omega) (by omega)]; omega
      rw [decide_eq_false (fun y => y z2)] at hB
      rw [hB, dm_not h2 q1, if_neg (by rw [mm_up_eq]; exact nI_lt0 p (by omega))] at hY
      right
      have kb : kB (mm_up (mm_up f 53 6 (nI (p + 1))) 53 2 (mm_up f 53 6 (nI (p + 1)) 53 6 - 1)) (mm_up g 136 11 (nI p)) := ⟨p, by omega, by rw [mm_up_eq, mm_up_eq, nI_pred], mm_up_eq _ _ _ _⟩
      rw [if_neg z1, hY, nXi_bad kb.cb, nC_bad kb.cb]
      exact kb.wideL
  · have e := dm_and (b' := decide (¬ 8 < g 136 15 + g 137 (wd g W p).toNatClampNeg)) h2 q1
    rw [← hB] at e
    rw [e, if_neg (Int32.not_lt.mpr q1.rb)] at hY
    rw [if_neg q1.cb] at hX
    rw [hX, hY]
    exact Or.inr q1
theorem st_rs {f g : mm_F} {W m p v : Nat} {cl : Nat → Nat} {k : Int32} (hs : kS f g W m cl) (h : kO f g W p v) (hk : btw 3 10 k = true) : (∃ p' v', kO (stF2 f k) (rsF g W m cl k p).1 W p' v' ∧ (rsF g W m cl k p).2 = p' ∧ gst f W m cl k p v p' v') ∨ kB (stF2 f k) (rsF g W m cl k p).1 := by
  have h2 := h.2.1
  unfold stF2 rsF
  by_cases k3 : k = 3
  · rw [if_pos k3, if_pos k3]
    rcases nC_rcl hs h with ⟨x1, x2, x3⟩ | x
    · have hs2 := hs.of (nC_fr f) (rcl_fr g W p)
      have hb : p + 1 < W → (btw 0 5 (wd g W (p + 1)) = true ↔ (¬ (nC f) 54 (p + 1) < 0 ∧ (nC f) 54 (p + 1) ≤ 5)) := fun hp => by
        rw [wd_at hs hp, (nC_fr f).w54]
        show decide (¬ f 54 (p + 1) < 0 ∧ ¬ 5 < f 54 (p + 1)) = true ↔ _
        rw [decide_eq_true_iff, Int32.not_lt (a := 5)]
      rcases nx_dm hs2 x1 hb with ⟨q1, q2, q3, q4⟩ | ⟨q1, q2⟩
      · rw [q3, q4]
        have hs3 : kS (mm_up (nC f) 53 6 (nI (p + 1 + 1))) (rcl g W p) W m cl := hs2.of (nfr.up (Or.inr (Or.inr rfl))) (rfi.rf _)
        rcases nA_dm hs3 (x1.next q1) with ⟨z1, z2⟩ | z
        · left
          refine ⟨p + 3, v, z1, rfl, Or.inl ⟨k3, rfl, rfl, x3, ?_⟩⟩
          rw [← wd_at hs q1]; exact q2
        · exact Or.inr z
      · right
        rw [nA_bad q1.cb, dm_bad q1.rb]; exact q1
    · right
      show kB (nA (nx (nC f) 0 5).1) (dm (dm (rcl g W p) W (p + 1) _) W (p + 2) true)
      rw [nx_bad x.cb, nA_bad x.cb, dm_bad x.rb, dm_bad x.rb]; exact x
  rw [if_neg k3, if_neg k3]
  by_cases k4 : k = 4
  · rw [if_pos k4, if_pos k4, k4]; exact pk_rc hs h
  rw [if_neg k4, if_neg k4]
  by_cases k5 : k = 5
  · rw [if_pos k5, if_pos k5, k5]; exact jn_rj hs h
  rw [if_neg k5, if_neg k5]
  by_cases k67 : k = 6 ∨ k = 7
  · rw [if_pos k67]
    have e : (if k = 6 then (nx f 0 2147483647).1 else if k = 7 then (nx f 0 2147483647).1 else if k = 8 then mm_up f 53 3 1 else if k = 9 then mm_up (nC f) 53 3 1 else if k = 10 then mm_up (nC f) 53 3 2 else f) = (nx f 0 2147483647).1 := by
      rcases k67 with z | z
      · rw [if_pos z]
      · rw [if_neg (by rw [z]; decide), if_pos z]
    rw [e]
    have hb : p < W → (decide (¬ wd g W p < 0) = true ↔ (¬ f 54 p < 0 ∧ f 54 p ≤ 2147483647)) := fun hp => by
      rw [wd_at hs hp, decide_eq_true_iff]
      refine ⟨fun z => ⟨z, ?_⟩, fun z => z.1⟩
      rw [Int32.le_iff_toInt_le]
      have := (f 54 p).toInt_le
      have h6 : (2147483647 : Int32).toInt = 2147483647 := by decide
      omega
    rcases nx_dm hs h hb with ⟨q1, q2, q3, q4⟩ | ⟨q1, q2⟩
    · left
      rw [q3, q4]
      refine ⟨p + 1, v, h.next q1, rfl, Or.inr (Or.inr (Or.inr (Or.inl ⟨k67, rfl, rfl, ?_⟩)))⟩
      exact ((hb q1).mp q2).1
    · exact Or.inr q1
  rw [if_neg k67, if_neg (fun z => k67 (Or.inl z)), if_neg (fun z => k67 (Or.inr z))]
  by_cases k8 : k = 8
  · rw [if_pos k8, if_pos k8]
    exact Or.inl ⟨p, 1, h.wide (x := 1) (by omega), rfl, Or.inr (Or.inr (Or.inr (Or.inr (Or.inl ⟨k8, rfl, rfl⟩))))⟩
  rw [if_neg k8, if_neg k8]
  by_cases k9 : k = 9
  · rw [if_pos k9, if_pos k9]
    rcases nC_rcl hs h with ⟨x1, x2, x3⟩ | x
    · exact Or.inl ⟨p + 1, 1, x1.wide (x := 1) (by omega), rfl, Or.inr (Or.inr (Or.inr (Or.inr (Or.inr (Or.inl ⟨k9, rfl, rfl, x3⟩)))))⟩
    · exact Or.inr x.wide
  rw [if_neg k9, if_neg k9]
  have k10 : k = 10 := by
    have b : ¬ k < 3 ∧ ¬ 10 < k := of_decide_eq_true hk
    rw [Int32.lt_iff_toInt_lt, Int32.lt_iff_toInt_lt] at b
    have e3 : (3 : Int32).toInt = 3 := by decide
    have e10 : (10 : Int32).toInt = 10 := by decide
    have ne : ∀ j : Int32, ¬ k = j → k.toInt ≠ j.toInt := fun j q z => q (Int32.toInt_inj.mp z)
    have n3 := ne 3 k3
    have n4 := ne 4 k4
    have n5 := ne 5 k5
    have n6 := ne 6 (fun z => k67 (Or.inl z))
    have n7 := ne 7 (fun z => k67 (Or.inr z))
    have n8 := ne 8 k8
    have n9 := ne 9 k9
    have e4 : (4 : Int32).toInt = 4 := by decide
    have e5 : (5 : Int32).toInt = 5 := by decide
    have e6 : (6 : Int32).toInt = 6 := by decide
    have e7 : (7 : Int32).toInt = 7 := by decide
    have e8 : (8 : Int32).toInt = 8 := by decide
    have e9 : (9 : Int32).toInt = 9 := by decide
    apply Int32.toInt_inj.mp
    omega
  rw [if_pos k10]
  rcases nC_rcl hs h with ⟨x1, x2, x3⟩ | x
  · exact Or.inl ⟨p + 1, 2, x1.wide (x := 2) (by omega), rfl, Or.inr (Or.inr (Or.inr (Or.inr (Or.inr (Or.inr ⟨k10, rfl, rfl, x3⟩)))))⟩
  · exact Or.inr x.wide
