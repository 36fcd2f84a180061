/-! Pure: a run of class and reference, from a memory in which they are alike. -/
theorem run_sim {f f1 gB fA : mm_F} {n m R W F : Nat} {nn cl : Nat → Nat} (h : Iv f m R W nn cl) (hf1 : f1 = mm_up (mm_up f 134 1 0) 134 2 0) (hw : (ltF f1) 53 2 = -1) (hA : ∀ x, x < 134 → fA x = (ltF f1) x) (o1 : fA 134 1 = 0) (o2 : fA 134 2 = 0) (hn : 153 ≤ n) (n3 : fA n 3 = nI F) (n4 : fA n 4 = 0) (hF : F < 2 ^ 31) (hg1 : ∀ a, a < 53 → ¬ a = 1 → gB a = f a) (hg2 : ∀ a, 136 ≤ a → a ≤ 151 → gB a = f a) :
    ∃ N P V t L, 1 ≤ N ∧ N ≤ 39 ∧ (ltF f1) 53 4 = nI N ∧ stt n N m R W F cl nn P V t L (itB N fA) (r0F gB W m cl (nI F)) (N - 1) 0 0 ∧ ms n N F (itB N fA) (N - 1) 0 0 + 1 ≤ (F + 4) * 78 ∧ RS (r0F gB W m cl (nI F)) N m R cl ∧ ¬ (r0F gB W m cl (nI F)) 143 0 = 5 ∧ ¬ 0 ≤ (rpF gB W m cl) 136 11 ∧ (rpF gB W m cl) 136 15 = nI (V N) ∧ 1 ≤ V N ∧ V N ≤ 8 ∧ ∀ i, i < N → tOK (itB i fA) i := by
  obtain ⟨hT, hR, ⟨w1, w2, w3, w4⟩, _⟩ := id h
  have e1 : ∀ a, ¬ a = 134 → f1 a = f a := fun a ha => by rw [hf1, mm_up_off _ _ ha, mm_up_off _ _ ha]
  have hs : kS f1 gB W m cl := by
    obtain ⟨a1, a2, a3, a4, a5, a6, a7⟩ := kS_of hT hR w1 w2 w4
    refine ⟨by rw [e1 53 (by omega)]; exact a1, a2, fun i hi => by rw [e1 54 (by omega), hg2 142 (by omega) (by omega)]; exact a3 i hi, by rw [e1 2 (by omega)]; exact a4, a5, fun t ht => by rw [e1 _ (by omega), hg2 137 (by omega) (by omega)]; exact a6 t ht, fun t c ht hc => by rw [e1 _ (by omega), hg2 138 (by omega) (by omega)]; exact a7 t c ht hc⟩
  obtain ⟨hT', hR'⟩ := both_frame1 (g := gB) hT hR hg1 (by rw [hg2 136 (by omega) (by omega)]) (by rw [hg2 136 (by omega) (by omega)]) (fun a q1 q2 => hg2 a (by omega) (by omega))
  rcases look_alike hs with ⟨q, q1, q2, q3⟩ | ⟨k, t, p, N, P, V, y1, y2, y3, y4, y5, y6, y7, y8, y9, y10, y11, y12, y13, y14, y15⟩
  · rw [q2] at hw
    exact absurd hw (neg1_ne (by omega))
  · have hcl1 : ∀ t, t < m → 1 ≤ cl t := fun t ht => (hT.2.2.1 t ht).2.1
    have hcl4 : ∀ t, t < m → cl t ≤ 4 := fun t ht => (hT.2.2.1 t ht).2.2.1
    obtain ⟨pv, pp⟩ := plan_facts y10 y4 y6 (by rw [y3]; have := hcl4 t y1.1; omega) (by rw [y3]; exact hcl1 t y1.1)
    obtain ⟨L, s1, s2⟩ := run_start (n := n) (R := R) (F := F) (nn := nn) (fA := fA) hs y1 y2 y3 y4 y5 y6 y7 y10 y11 y12 y13 y14 hA o1 o2 hn n3 n4 hF hT' hR' (fun x hx => by rw [e1 x (by omega), hg1 x (by omega) (by omega)])
    obtain ⟨r1, r2⟩ := RS_of (x := nI F) (R := R) hs y1 y2 y3 hcl1 y4 y5 y6 y9 y10 y14 hR'.2.1 hR'.2.2.1
    have lf := ltF_fr f1
    have A54 : fA 54 = f1 54 := funext fun j => by rw [hA 54 (by omega), lf 54 j (by omega) (by omega)]
    have AT : ∀ a, a < 52 → fA a = f1 a := fun a ha => funext fun j => by rw [hA a (by omega), lf a j (by omega) (by omega)]
    refine ⟨N, P, V, t, L, y4, by omega, y8, s1, s2, r1, r2, ?_, y7.2.2.2.2.2.1, (pv N y4 (Nat.le_refl _)).2, (pv N y4 (Nat.le_refl _)).1, ?_⟩
    · exact Int32.not_le.mpr y7.2.1
    · refine tOK_all (n := nn) (cl := cl) (W := W) (m := m) (N := N) (t := t) (p := p) (P := P) (V := V) (k := k) w2 hT.2.1 ?_ y2 y4 pp (by rw [hA 56 (by omega)]; exact y11) (by rw [hA 56 (by omega)]; exact y12) (fun i i1 i2 => ?_) (fun u hu => ?_)
      · obtain ⟨g1, g2, g3, g4⟩ := y1
        refine ⟨g1, by rw [A54]; exact g2, by rw [A54]; exact g3, ?_⟩
        rcases g4 with g4 | ⟨z1, z2, d, z3, z4, z5⟩
        · exact Or.inl g4
        · have := hT.2.1
          exact Or.inr ⟨z1, z2, d, z3, by rw [A54]; exact z4, by rw [AT _ (by omega)]; exact z5⟩
      · obtain ⟨b1, b2, b3, b4, b5, b6⟩ := y10 i i1 i2
        rw [hA _ (by omega)]
        exact ⟨b2, b4, by rw [b1]; exact b6.congr hT.2.1 A54 (fun u hu => AT _ (by omega))⟩
      · obtain ⟨t1, t2, t3, t4, t5, LL, t6⟩ := hT.2.2.1 u hu
        have := hT.2.1
        have e : ∀ a, a < 52 → fA a = f a := fun a ha => by rw [AT a ha, e1 a (by omega)]
        refine ⟨by rw [e _ (by omega)]; exact t4, t5, by rw [e _ (by omega)]; exact t1, t2, t3, fun c hc => tb_up_congr (e _ (by omega)) (e _ (by omega)) ((t6 c hc).up t5)⟩
