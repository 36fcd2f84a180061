/-! Pure: the source of a plan, and the whole look, class beside reference. -/
theorem mm_up_comm (f : mm_F) {a j b k : Nat} (x y : Int32) (h : ¬ (a = b ∧ j = k)) : mm_up (mm_up f a j x) b k y = mm_up (mm_up f b k y) a j x := by
  funext c i
  unfold mm_up
  by_cases h1 : c = b ∧ i = k
  · rw [if_pos h1, if_neg (by omega), if_pos h1]
  · rw [if_neg h1, if_neg h1]
theorem dm_wide (g : mm_F) (W p : Nat) (b : Bool) (x : Int32) : dm (mm_up g 136 15 x) W p b = mm_up (dm g W p b) 136 15 x := by
  unfold dm
  rw [mm_up_ne (c := 136) (k := 11) _ _ (by omega)]
  split
  · rfl
  · split
    · exact mm_up_comm _ _ _ (by omega)
    · split
      · rfl
      · exact mm_up_comm _ _ _ (by omega)
/-- what is known of a right source: its word k, its table t; p: the place behind it -/
def gsr (f : mm_F) (W m : Nat) (cl : Nat → Nat) (k : Int32) (t p : Nat) : Prop := t < m ∧ f 54 1 = nI t ∧ f 54 0 = k ∧ ((k = 1 ∧ p = 2) ∨ (k = 2 ∧ p = 5 ∧ ∃ d, d < cl t ∧ f 54 2 = nI d ∧ ¬ f (5 + 12 * t) d = 0))
theorem source_alike {f g : mm_F} {W m : Nat} {cl : Nat → Nat} (hs : kS f g W m cl) (h : kO f g W 0 0) (hc : f 53 4 = 0) :
    kB (srF f) (rso g W m cl) ∨ ∃ k t p, kO (srF f) (rso g W m cl) W p (cl t) ∧ gsr f W m cl k t p ∧ (srF f) 53 4 = 1 ∧ (srF f) 56 0 = k ∧ (srF f) 56 1 = 0 ∧ (srF f) 56 2 = 0 ∧ (rso g W m cl) 143 0 = k ∧ (rso g W m cl) 144 0 = 1 := by
  obtain ⟨a1, a2, a3, a4, a5, a6, a7⟩ := id hs
  have e0 : (0 : Int32).toNatClampNeg = 0 := rfl
  have f6 : f 53 6 = 0 := h.2.2.1
  have f3 : f 53 3 = 0 := h.2.2.2.2.1
  have hbs : bsF f = mm_up (mm_up (mm_up f 56 1 0) 56 2 0) 53 4 1 := by
    unfold bsF
    rw [hc, e0, f6, f3]; rfl
  have hb1 : pfr f (bsF f) := bsF_fr (c := 0) hc (by omega)
  have hsr : srF f = srF2 (mm_up (nx (bsF f) 1 2).1 56 0 (nx (bsF f) 1 2).2) (nx (bsF f) 1 2).2 := by
    unfold srF
    rw [hc, e0]
  have hr1 : rso1 g W = dm (mm_up (mm_up g 143 0 (wd g W 0)) 144 0 1) W 0 (decide (wd g W 0 = 1 ∨ wd g W 0 = 2)) := rfl
  have hr2 : rso2 g W m = dm (rso1 g W) W 1 (inb (wd g W 1) m) := rfl
  have hr : rso g W m cl = if (rso2 g W m) 136 11 < 0 then rso4 (mm_up (rso2 g W m) 136 15 ((rso2 g W m) 137 (wd g W 1).toNatClampNeg)) W cl (wd g W 1) else rso2 g W m := rfl
  have g1p : rfr g (mm_up (mm_up g 143 0 (wd g W 0)) 144 0 1) := (rfr.up (by omega)).tr (rfr.up (by omega))
  have k0 : kO (bsF f) (mm_up (mm_up g 143 0 (wd g W 0)) 144 0 1) W 0 0 := h.same (by rw [hbs, mm_up_ne _ _ (by omega), mm_up_ne _ _ (by omega), mm_up_ne _ _ (by omega)]) (by rw [hbs, mm_up_ne _ _ (by omega), mm_up_ne _ _ (by omega), mm_up_ne _ _ (by omega)]) (by rw [hbs, mm_up_ne _ _ (by omega), mm_up_ne _ _ (by omega), mm_up_ne _ _ (by omega)]) (by rw [mm_up_ne _ _ (by omega), mm_up_ne _ _ (by omega)]) (by rw [mm_up_ne _ _ (by omega), mm_up_ne _ _ (by omega)])
  have s0 : kS (bsF f) (mm_up (mm_up g 143 0 (wd g W 0)) 144 0 1) W m cl := hs.of2 hb1 g1p
  have e54 : (bsF f) 54 = f 54 := funext fun j => hb1 54 j (by omega) (by omega)
  have w143 : (mm_up (mm_up g 143 0 (wd g W 0)) 144 0 1) 143 0 = wd g W 0 := by rw [mm_up_ne _ _ (by omega), mm_up_eq]
  have w144 : (mm_up (mm_up g 143 0 (wd g W 0)) 144 0 1) 144 0 = 1 := mm_up_eq _ _ _ _
  have w137 : ∀ t, (mm_up (mm_up g 143 0 (wd g W 0)) 144 0 1) 137 t = g 137 t := fun t => by rw [mm_up_ne _ _ (by omega), mm_up_ne _ _ (by omega)]
  have ww : ∀ p, wd (mm_up (mm_up g 143 0 (wd g W 0)) 144 0 1) W p = wd g W p := fun p => wd_fr g1p
  have hb : 0 < W → (decide (wd g W 0 = 1 ∨ wd g W 0 = 2) = true ↔ (¬ (bsF f) 54 0 < 1 ∧ (bsF f) 54 0 ≤ 2)) := fun hp => by
    rw [wd_at hs hp, e54, decide_eq_true_iff, Int32.lt_iff_toInt_lt, Int32.le_iff_toInt_le, ← Int32.toInt_inj, ← Int32.toInt_inj]
    have i1 : (1 : Int32).toInt = 1 := by decide
    have i2 : (2 : Int32).toInt = 2 := by decide
    omega
  have c0 : (bsF f) 53 4 = 1 := by rw [hbs, mm_up_eq]
  have c1 : (bsF f) 56 1 = 0 := by rw [hbs, mm_up_ne _ _ (by omega), mm_up_ne _ _ (by omega), mm_up_eq]
  have c2 : (bsF f) 56 2 = 0 := by rw [hbs, mm_up_ne _ _ (by omega), mm_up_eq]
  generalize mm_up (mm_up g 143 0 (wd g W 0)) 144 0 1 = g1 at *
  rcases nx_dm s0 k0 hb with ⟨q1, q2, q3, q4⟩ | ⟨q1, q2⟩
  · rw [q4] at hr1
    have ek : wd g W 0 = f 54 0 := wd_at hs q1
    have hk : f 54 0 = 1 ∨ f 54 0 = 2 := by rw [← ek]; exact of_decide_eq_true q2
    rw [q3, e54] at hsr
    have hsr' : srF f = srF2 (mm_up (mm_up (bsF f) 53 6 (nI (0 + 1))) 56 0 (f 54 0)) (f 54 0) := hsr
    rw [hsr']
    generalize hkk : f 54 0 = k at *
    have fp : pfr f (mm_up (mm_up (bsF f) 53 6 (nI (0 + 1))) 56 0 k) := (hb1.tr (pfr.up (by omega))).tr (pfr.up3 (s := 0) (by omega) (by omega))
    have k1 : kO (mm_up (mm_up (bsF f) 53 6 (nI (0 + 1))) 56 0 k) g1 W 1 0 := (k0.next q1).same (by rw [mm_up_ne _ _ (by omega)]) (by rw [mm_up_ne _ _ (by omega)]) (by rw [mm_up_ne _ _ (by omega)]) rfl rfl
    have s1 : kS (mm_up (mm_up (bsF f) 53 6 (nI (0 + 1))) 56 0 k) g1 W m cl := hs.of2 fp g1p
    have d0 : (mm_up (mm_up (bsF f) 53 6 (nI (0 + 1))) 56 0 k) 53 4 = 1 := by rw [mm_up_ne _ _ (by omega), mm_up_ne _ _ (by omega)]; exact c0
    have d1 : (mm_up (mm_up (bsF f) 53 6 (nI (0 + 1))) 56 0 k) 56 1 = 0 := by rw [mm_up_ne _ _ (by omega), mm_up_ne _ _ (by omega)]; exact c1
    have d2 : (mm_up (mm_up (bsF f) 53 6 (nI (0 + 1))) 56 0 k) 56 2 = 0 := by rw [mm_up_ne _ _ (by omega), mm_up_ne _ _ (by omega)]; exact c2
    have d3 : (mm_up (mm_up (bsF f) 53 6 (nI (0 + 1))) 56 0 k) 56 0 = k := mm_up_eq _ _ _ _
    generalize mm_up (mm_up (bsF f) 53 6 (nI (0 + 1))) 56 0 k = f1 at *
    have e54' : f1 54 = f 54 := funext fun j => fp 54 j (by omega) (by omega)
    rw [hr1] at hr2
    have hx2 : srF2 f1 k = if (nx f1 0 (f1 2 1 - 1)).1 53 2 = -1 then srF3 (nx f1 0 (f1 2 1 - 1)).1 k (nx f1 0 (f1 2 1 - 1)).2.toNatClampNeg else (nx f1 0 (f1 2 1 - 1)).1 := rfl
    have ht := nx_tab (v := 0) (p := 1) s1
    rw [ww] at ht
    rcases nx_dm s1 k1 ht with ⟨x1, x2, x3, x4⟩ | ⟨x1, x2⟩
    · rw [x4] at hr2
      have ew : wd g W 1 = f 54 1 := wd_at hs x1
      obtain ⟨et, t1⟩ := inb_nI x2 (by omega)
      generalize hT : (wd g W 1).toNatClampNeg = t at et t1 hr
      have et' : f 54 1 = nI t := by rw [← ew]; exact et
      obtain ⟨b1, b2, b3⟩ := a6 t t1
      rw [hr2, if_pos k1.2.1, w137, b2, et] at hr
      rw [x3, e54', et'] at hx2
      have k2 := k1.next x1
      have s2 : kS (mm_up f1 53 6 (nI (1 + 1))) g1 W m cl := s1.of (nfr.up (Or.inr (Or.inr rfl))) (rfi.rf g1)
      have hx3 : srF2 f1 k = srF3 (mm_up f1 53 6 (nI (1 + 1))) k t := by
        rw [hx2]
        show (if mm_up f1 53 6 (nI (1 + 1)) 53 2 = -1 then srF3 (mm_up f1 53 6 (nI (1 + 1))) k (nI t).toNatClampNeg else _) = _
        rw [if_pos k2.1, nI_clamp (by omega)]
      rw [hx3]
      have fr2 : nfr f1 (mm_up f1 53 6 (nI (1 + 1))) := nfr.up (Or.inr (Or.inr rfl))
      have fin : ∀ (f3 g3 : mm_F) p, nfr f1 f3 → rfi g1 g3 → kO f3 g3 W p 0 → gsr f W m cl k t p → rso g W m cl = mm_up g3 136 15 (nI (cl t)) → ∃ k' t' p', kO (mm_up f3 53 3 (f3 (4 + 12 * t) 0)) (rso g W m cl) W p' (cl t') ∧ gsr f W m cl k' t' p' ∧ (mm_up f3 53 3 (f3 (4 + 12 * t) 0)) 53 4 = 1 ∧ (mm_up f3 53 3 (f3 (4 + 12 * t) 0)) 56 0 = k' ∧ (mm_up f3 53 3 (f3 (4 + 12 * t) 0)) 56 1 = 0 ∧ (mm_up f3 53 3 (f3 (4 + 12 * t) 0)) 56 2 = 0 ∧ (rso g W m cl) 143 0 = k' ∧ (rso g W m cl) 144 0 = 1 := by
        intro f3 g3 p n1 n2 n3 n4 n5
        have e4 : f3 (4 + 12 * t) 0 = nI (cl t) := by rw [n1 _ 0 (by omega), fp _ 0 (by omega) (by omega)]; exact b1
        refine ⟨k, t, p, ?_, n4, ?_, ?_, ?_, ?_, ?_, ?_⟩
        · rw [e4, n5]; exact n3.wide (by omega)
        · rw [mm_up_ne _ _ (by omega), n1 53 4 (by omega)]; exact d0
        · rw [mm_up_ne _ _ (by omega), n1 56 0 (by omega)]; exact d3
        · rw [mm_up_ne _ _ (by omega), n1 56 1 (by omega)]; exact d1
        · rw [mm_up_ne _ _ (by omega), n1 56 2 (by omega)]; exact d2
        · rw [n5, mm_up_ne _ _ (by omega), n2 143 0 (by omega), w143]; exact ek
        · rw [n5, mm_up_ne _ _ (by omega), n2 144 0 (by omega)]; exact w144
      unfold srF3
      unfold rso4 at hr
      rw [mm_up_ne (c := 143) _ _ (by omega), w143, ek] at hr
      by_cases k2' : k = 2
      · rw [if_pos k2']
        rw [if_pos k2'] at hr
        have hix : ixC (mm_up g1 136 15 (nI (cl t))) (nI t) (wd (mm_up g1 136 15 (nI (cl t))) W 2) (cl (nI t).toNatClampNeg) = ixC g1 (nI t) (wd g1 W 2) (cl t) := by
          rw [nI_clamp (by omega)]
          unfold ixC wd
          rw [mm_up_off _ _ (by omega), mm_up_off _ _ (by omega)]
        rw [hix, dm_wide, dm_wide, dm_wide] at hr
        rcases nXi_ix s2 k2 t1 with ⟨y1, y2, d, y3, y4, y5⟩ | y
        · have frx := nXi_fr (mm_up f1 53 6 (nI (1 + 1))) t
          have frd := dm_fr g1 W 2 (ixC g1 (nI t) (wd g1 W 2) (cl t))
          have s3 := s2.of frx frd
          have z54 : f 54 2 = nI d := by rw [← y4, mm_up_off _ _ (by omega), e54']
          have z5 : ¬ f (5 + 12 * t) d = 0 := by rw [mm_up_ne (c := 5 + 12 * t) _ _ (by omega), fp _ d (by omega) (by omega)] at y5; exact y5
          rcases nA_dm s3 y1 with ⟨u1, u2⟩ | u
          · have s4 := s3.of (nA_fr _) (dm_fr _ W 3 true)
            rcases nA_dm s4 u1 with ⟨v1, v2⟩ | u'
            · right
              exact fin _ _ 5 (((fr2.tr frx).tr (nA_fr _)).tr (nA_fr _)) ((frd.tr (dm_fr _ _ _ _)).tr (dm_fr _ _ _ _)) v1 ⟨t1, et', hkk, Or.inr ⟨k2', rfl, d, y3, z54, z5⟩⟩ hr
            · left
              rw [hr]; exact u'.wide
          · left
            rw [hr, nA_bad u.cb, dm_bad (p := 4) u.rb]; exact u.wide
        · left
          have b4 : dm (dm g1 W 2 (ixC g1 (nI t) (wd g1 W 2) (cl t))) W 3 true = dm g1 W 2 (ixC g1 (nI t) (wd g1 W 2) (cl t)) := dm_bad y.rb
          rw [hr, nA_bad y.cb, nA_bad y.cb, b4, dm_bad (p := 4) y.rb]; exact y.wide
      · rw [if_neg k2']
        rw [if_neg k2'] at hr
        right
        have hk1 : k = 1 := by
          rcases hk with z | z
          · exact z
          · exact absurd z k2'
        exact fin _ g1 2 fr2 (rfi.rf g1) k2 ⟨t1, et', hkk, Or.inl ⟨hk1, rfl⟩⟩ hr
    · left
      rw [← hr2] at x1
      rw [if_neg (Int32.not_lt.mpr x1.rb)] at hr
      rw [if_neg x1.cb] at hx2
      rw [hx2, hr]; exact x1
  · left
    rw [← hr1] at q1
    have e2 : rso2 g W m = rso1 g W := by rw [hr2]; exact dm_bad q1.rb
    rw [e2, if_neg (Int32.not_lt.mpr q1.rb)] at hr
    have kb : kB (mm_up (nx (bsF f) 1 2).1 56 0 (nx (bsF f) 1 2).2) (rso1 g W) := q1.of (mm_up_ne _ _ (by omega)) rfl
    rw [hr, hsr]
    unfold srF2
    rw [nx_bad kb.cb, if_neg kb.cb]
    exact kb
