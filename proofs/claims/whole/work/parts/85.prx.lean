/-! Pure: a run of class and reference: what both say, and that they are alike behind it. -/
theorem nI_div : ∀ c, c < 65 → ∀ v, v < 9 → 1 ≤ v → nI (c * v) / nI v = nI c := by decide +kernel
theorem run_class {f f1 fA : mm_F} {n m R W F : Nat} {nn cl : Nat → Nat} (h : Iv f m R W nn cl) (hf1 : f1 = mm_up (mm_up f 134 1 0) 134 2 0) (hw : (ltF f1) 53 2 = -1) (hA : ∀ x, x < 134 → fA x = (ltF f1) x) (o1 : fA 134 1 = 0) (o2 : fA 134 2 = 0) (hn : 153 ≤ n) (n3 : fA n 3 = nI F) (n4 : fA n 4 = 0) (hF : F < 2 ^ 31) :
    ∃ (N : Nat) (r : Int32) (fc : mm_F) (I : mm_F → Nat → Int32 → Prop), 1 ≤ N ∧ N ≤ 39 ∧ (ltF f1) 53 4 = nI N ∧ (∀ k, k ≤ N → itB k fA 53 4 = nI N ∧ itB k fA n 3 = nI F) ∧ (∀ k, k < N → tOK (itB k fA) k) ∧ I (itB N fA) (N - 1) 0 ∧
      (∀ (g : mm_F) (a : Nat) (nw : Int32), I g a nw → a < N ∧ sOK g a ∧ (∃ u, u ≤ 64 ∧ (reF g n a nw).1 134 1 = nI u) ∧ (∃ k, k ≤ 8 ∧ (reF g n a nw).1 53 3 = nI k) ∧ ((reF g n a nw).2 = 0 → 0 < a) ∧ ((reF g n a nw).2 = 0 ∨ (reF g n a nw).2 = 1 ∨ (reF g n a nw).2 = 2 ∨ (reF g n a nw).2 = 3) ∧ ∀ (g' : mm_F) (a' : Nat) (nw' : Int32), nxM g n (N - 1) a nw = (none, g', a', nw') → I g' a' nw') ∧
      ruM ((F + 4) * 78) (itB N fA) n (N - 1) (N - 1) 0 = some (r, fc) ∧ (r = 2 ∨ r = 3 ∨ r = 4) ∧ ufr (itB N fA) fc n := by
  obtain ⟨N, P, V, t, L, s1, s2, s3, s4, s5, s6, s7, s8, s9, s10, s11, s12⟩ := run_sim (gB := f) h hf1 hw hA o1 o2 hn n3 n4 hF (fun _ _ _ => rfl) (fun _ _ _ => rfl)
  obtain ⟨r, fc, z, k, y1, y2, y3⟩ := run_alike ((F + 4) * 78 - 1) s4 (by omega)
  rw [show (F + 4) * 78 - 1 + 1 = (F + 4) * 78 by omega] at y1
  refine ⟨N, r, fc, fun g a w => ∃ g' b, stt n N m R W F cl nn P V t L g g' a w b, s1, s2, s3, fun k hk => ⟨?_, ?_⟩, s12, ⟨_, _, s4⟩, fun g a w hI => stt_keeps hI, y1, ?_, ruM_fr _ hn (by omega) (Nat.le_refl _) y1⟩
  · rw [itB_fr fA k 53 4 (by omega), hA 53 (by omega)]; exact s3
  · rw [itB_fr fA k n 3 (by omega)]; exact n3
  · rcases y3 with ⟨z, _⟩ | ⟨z, _⟩ | ⟨z, _⟩
    · exact Or.inl z
    · exact Or.inr (Or.inl z)
    · exact Or.inr (Or.inr z)
/-- the rest of the invariant behind the reference's run -/
theorem Iv.ran {f gB z : mm_F} {m R W u : Nat} {nn cl : Nat → Nat} {x c v : Int32} (h : Iv f m R W nn cl) (hg1 : ∀ a, a < 53 → ¬ a = 1 → gB a = f a) (hg2 : ∀ a, 136 ≤ a → a ≤ 151 → gB a = f a) (hg3 : gB 53 1 = f 53 1) (hg4 : gB 54 = f 54) (hz : dfr (r0F gB W m cl x) z) (hd : RD z) (g : mm_F) (hr : ∀ a, ¬ a = 136 → g a = z a) (hs : ∀ j, ¬ j = 0 → ¬ j = 29 → ¬ j = 30 → g 136 j = z 136 j) (hv : gB 1 4 = g 136 29) (hu : u ≤ 64) (u1 : gB 134 1 = nI u) (u2 : g 136 30 = nI u) (u3 : ∀ j, j < u → gB 135 j = z 151 j) : IV g := by
  have rf := rpF_fr (W := W) (m := m) (cl := cl) gB
  have row : ∀ a, ¬ a = 136 → ¬ (143 ≤ a ∧ a ≤ 151) → g a = gB a := fun a q1 q2 => by
    rw [hr a q1]
    funext j
    rw [hz a j (by omega) (by omega), r0F_row _ _ _ _ _ (by omega) (by omega) (by omega) (by omega), rf a j (by omega) (by omega) (by omega) (by omega)]
  have col : ∀ j, j = 1 ∨ j = 5 ∨ j = 8 → g 136 j = gB 136 j := fun j q => by
    rw [hs j (by omega) (by omega) (by omega), hz 136 j (by omega) (by omega), r0F_row _ _ _ _ _ (by omega) (by omega) (by omega) (by omega), rf 136 j (by omega) (by omega) (by omega) (by omega)]
  obtain ⟨hT, hR, ⟨w1, w2, w3, w4⟩, hvv, _, _, hB⟩ := id h
  obtain ⟨hT', hR'⟩ := both_frame1 (g := g) hT hR (fun a q1 q2 => by rw [row a (by omega) (by omega)]; exact hg1 a q1 q2) (by rw [col 1 (by omega), hg2 136 (by omega) (by omega)]) (by rw [col 5 (by omega), hg2 136 (by omega) (by omega)]) (fun a q1 q2 => by rw [row a (by omega) (by omega)]; exact hg2 a (by omega) (by omega))
  refine ⟨m, R, W, nn, cl, hT', hR', ⟨?_, w2, ?_, fun i hi => ?_⟩, ?_, ⟨u, hu, ?_, u2, fun j hj => ?_⟩, ?_, fun t c ht hc => ?_⟩
  · rw [row 53 (by omega) (by omega), hg3]; exact w1
  · rw [col 8 (by omega), hg2 136 (by omega) (by omega)]; exact w3
  · rw [row 54 (by omega) (by omega), hg4, row 142 (by omega) (by omega), hg2 142 (by omega) (by omega)]; exact w4 i hi
  · rw [row 1 (by omega) (by omega)]; exact hv
  · rw [row 134 (by omega) (by omega)]; exact u1
  · rw [row 135 (by omega) (by omega), hr 151 (by omega)]; exact u3 j hj
  · obtain ⟨⟨c, c1, c2⟩, _⟩ := hd
    exact ⟨c, c1, by rw [hs 20 (by omega) (by omega) (by omega)]; exact c2⟩
  · rw [row _ (by omega) (by omega), hg1 _ (by omega) (by omega)]; exact hB t c ht hc
theorem run_ref {f f1 gB fA fc : mm_F} {n m R W F N : Nat} {nn cl : Nat → Nat} {r : Int32} (h : Iv f m R W nn cl) (hf1 : f1 = mm_up (mm_up f 134 1 0) 134 2 0) (hw : (ltF f1) 53 2 = -1) (hA : ∀ x, x < 134 → fA x = (ltF f1) x) (o1 : fA 134 1 = 0) (o2 : fA 134 2 = 0) (hn : 153 ≤ n) (n3 : fA n 3 = nI F) (n4 : fA n 4 = 0) (hF : F < 2 ^ 31) (hN : N ≤ 39) (hN2 : (ltF f1) 53 4 = nI N) (hrun : ruM ((F + 4) * 78) (itB N fA) n (N - 1) (N - 1) 0 = some (r, fc)) (hg1 : ∀ a, a < 53 → ¬ a = 1 → gB a = f a) (hg2 : ∀ a, 136 ≤ a → a ≤ 151 → gB a = f a) (hg3 : gB 53 1 = f 53 1) (hg4 : gB 54 = f 54) :
    Mk gB W m cl ∧ ¬ 0 ≤ (rpF gB W m cl) 136 11 ∧ RS (r0F gB W m cl (nI F)) N m R cl ∧ ¬ (r0F gB W m cl (nI F)) 143 0 = 5 ∧ RD (r0F gB W m cl (nI F)) ∧ ∃ K z, grM K (r0F gB W m cl (nI F)) N R 0 = some z ∧ ¬ z 136 15 = 0 ∧
      (r = 2 → (r1F z).2 = fc 134 2 ∧ (r1F z).1 136 0 = 0 ∧ (gB 1 4 = fc n 4 → gB 134 1 = fc 134 1 → gB 135 = fc 135 → IV (r1F z).1)) ∧
      (r = 3 → (r1F z).1 136 0 = 2 ∧ (gB 1 4 = f 1 4 → gB 134 1 = 0 → IV (r1F z).1)) ∧
      (r = 4 → (r1F z).1 136 0 = 3 ∧ (gB 1 4 = f 1 4 → gB 134 1 = 0 → IV (r1F z).1)) := by
  obtain ⟨N', P, V, t, L, s1, s2, s3, s4, s5, s6, s7, s8, s9, s10, s11, s12⟩ := run_sim (gB := gB) h hf1 hw hA o1 o2 hn n3 n4 hF hg1 hg2
  have eN : N' = N := (nI_eq (by omega) (by omega)).mp (s3.symm.trans hN2)
  subst eN
  obtain ⟨r', fc', z, k, y1, y2, y3⟩ := run_alike ((F + 4) * 78 - 1) s4 (by omega)
  rw [show (F + 4) * 78 - 1 + 1 = (F + 4) * 78 by omega, hrun] at y1
  simp only [Option.some.injEq, Prod.mk.injEq] at y1
  obtain ⟨e1, e2⟩ := y1
  subst e1 e2
  have hd0 : RD (r0F gB W m cl (nI F)) := by
    obtain ⟨u16, u17, u18, u19, u28, u30, uz⟩ := r0F_run gB W m cl (nI F)
    obtain ⟨_, _, _, _, _, ⟨c, c1, c2⟩, _⟩ := h
    refine ⟨⟨c, c1, ?_⟩, 0, by omega, u30⟩
    rw [r0F_row _ _ _ _ _ (by omega) (by omega) (by omega) (by omega), rpF_fr gB 136 20 (by omega) (by omega) (by omega) (by omega), hg2 136 (by omega) (by omega)]
    exact c2
  have y2' : grM k (r0F gB W m cl (nI F)) N' R 0 = some z := y2
  have hfr := grM_fr k y2'
  have hrd := grM_RD k s6 s7 hd0 y2'
  have z15 : z 136 15 = nI (V N') := by
    rw [hfr 136 15 (by omega) (by omega), r0F_row _ _ _ _ _ (by omega) (by omega) (by omega) (by omega)]; exact s9
  have z29 : z 136 29 = f 136 29 := by
    rw [hfr 136 29 (by omega) (by omega), r0F_row _ _ _ _ _ (by omega) (by omega) (by omega) (by omega), rpF_fr gB 136 29 (by omega) (by omega) (by omega) (by omega), hg2 136 (by omega) (by omega)]
  refine ⟨⟨?_, h.2.2.1.2.1, ?_, h.1.2.1, fun t ht => ⟨?_, (h.1.2.2.1 t ht).2.2.1⟩⟩, s8, s6, s7, hd0, k, z, y2', ?_, fun e => ?_, fun e => ?_, fun e => ?_⟩
  · rw [hg2 136 (by omega) (by omega)]; exact h.2.2.1.2.2.1
  · rw [hg2 136 (by omega) (by omega)]; exact h.2.1.1
  · rw [hg2 137 (by omega) (by omega)]; exact h.2.1.2.2.2.2.1 t ht
  · rw [z15]; exact nI_nz s10 (by omega)
  · rcases y3 with ⟨_, d⟩ | ⟨q, _⟩ | ⟨q, _⟩
    · obtain ⟨_, _, ⟨v, v1, v2, v3⟩, ⟨f18, f19⟩, u, c, ⟨p1, p2, p3, p4⟩, p5, p6⟩ := d
      have hr1 : r1F z = (mm_up (mm_up z 136 0 0) 136 29 (z 136 17), z 136 30 / z 136 15) := by
        unfold r1F
        rw [if_pos f18, if_pos f19]
      rw [hr1]
      have hc : c < 65 := by
        have : c * 1 ≤ c * V N' := Nat.mul_le_mul_left c s10
        omega
      refine ⟨?_, ?_, fun q1 q2 q3 => ?_⟩
      · show z 136 30 / z 136 15 = fc 134 2
        rw [p2, z15, p6, p5]
        exact nI_div c hc (V N') (by omega) s10
      · show (mm_up (mm_up z 136 0 0) 136 29 (z 136 17)) 136 0 = 0
        rw [mm_up_ne _ _ (by omega), mm_up_eq]
      · refine h.ran (u := u) (c := 0) (v := 0) hg1 hg2 hg3 hg4 hfr hrd _ (fun a ha => ?_) (fun j j1 j2 j3 => ?_) ?_ p3 (by rw [q2]; exact p1) ?_ (fun j hj => by rw [q3]; exact p4 j hj)
        · show (mm_up (mm_up z 136 0 0) 136 29 (z 136 17)) a = z a
          rw [mm_up_off _ _ ha, mm_up_off _ _ ha]
        · show (mm_up (mm_up z 136 0 0) 136 29 (z 136 17)) 136 j = z 136 j
          rw [mm_up_ne _ _ (by omega), mm_up_ne _ _ (by omega)]
        · show gB 1 4 = (mm_up (mm_up z 136 0 0) 136 29 (z 136 17)) 136 29
          rw [mm_up_eq, q1, v2, v3]
        · show (mm_up (mm_up z 136 0 0) 136 29 (z 136 17)) 136 30 = nI u
          rw [mm_up_ne _ _ (by omega), mm_up_ne _ _ (by omega)]; exact p2
    · rw [q] at e; exact absurd e (by decide)
    · rw [q] at e; exact absurd e (by decide)
  · rcases y3 with ⟨q, _⟩ | ⟨_, f18⟩ | ⟨q, _⟩
    · rw [q] at e; exact absurd e (by decide)
    · have hr1 : r1F z = (mm_up (mm_up z 136 0 2) 136 30 0, 0) := by
        unfold r1F
        rw [if_neg (by rw [f18]; decide)]
      rw [hr1]
      refine ⟨?_, fun q1 q2 => ?_⟩
      · show (mm_up (mm_up z 136 0 2) 136 30 0) 136 0 = 2
        rw [mm_up_ne _ _ (by omega), mm_up_eq]
      · refine h.ran (u := 0) (c := 0) (v := 0) hg1 hg2 hg3 hg4 hfr hrd _ (fun a ha => ?_) (fun j j1 j2 j3 => ?_) ?_ (by omega) q2 ?_ (fun j hj => by omega)
        · show (mm_up (mm_up z 136 0 2) 136 30 0) a = z a
          rw [mm_up_off _ _ ha, mm_up_off _ _ ha]
        · show (mm_up (mm_up z 136 0 2) 136 30 0) 136 j = z 136 j
          rw [mm_up_ne _ _ (by omega), mm_up_ne _ _ (by omega)]
        · show gB 1 4 = (mm_up (mm_up z 136 0 2) 136 30 0) 136 29
          rw [mm_up_ne _ _ (by omega), mm_up_ne _ _ (by omega), q1, z29]; exact h.2.2.2.1
        · show (mm_up (mm_up z 136 0 2) 136 30 0) 136 30 = nI 0
          rw [mm_up_eq]; rfl
    · rw [q] at e; exact absurd e (by decide)
  · rcases y3 with ⟨q, _⟩ | ⟨q, _⟩ | ⟨_, f18, f19⟩
    · rw [q] at e; exact absurd e (by decide)
    · rw [q] at e; exact absurd e (by decide)
    · have hr1 : r1F z = (mm_up (mm_up z 136 0 3) 136 30 0, 0) := by
        unfold r1F
        rw [if_pos f18, if_neg (by rw [f19]; decide)]
      rw [hr1]
      refine ⟨?_, fun q1 q2 => ?_⟩
      · show (mm_up (mm_up z 136 0 3) 136 30 0) 136 0 = 3
        rw [mm_up_ne _ _ (by omega), mm_up_eq]
      · refine h.ran (u := 0) (c := 0) (v := 0) hg1 hg2 hg3 hg4 hfr hrd _ (fun a ha => ?_) (fun j j1 j2 j3 => ?_) ?_ (by omega) q2 ?_ (fun j hj => by omega)
        · show (mm_up (mm_up z 136 0 3) 136 30 0) a = z a
          rw [mm_up_off _ _ ha, mm_up_off _ _ ha]
        · show (mm_up (mm_up z 136 0 3) 136 30 0) 136 j = z 136 j
          rw [mm_up_ne _ _ (by omega), mm_up_ne _ _ (by omega)]
        · show gB 1 4 = (mm_up (mm_up z 136 0 3) 136 30 0) 136 29
          rw [mm_up_ne _ _ (by omega), mm_up_ne _ _ (by omega), q1, z29]; exact h.2.2.2.1
        · show (mm_up (mm_up z 136 0 3) 136 30 0) 136 30 = nI 0
          rw [mm_up_eq]; rfl
/-- a run that is refused -/
theorem run_bad {f f1 gB : mm_F} {m R W : Nat} {nn cl : Nat → Nat} {x : Int32} (h : Iv f m R W nn cl) (hf1 : f1 = mm_up (mm_up f 134 1 0) 134 2 0) (hw : ¬ (ltF f1) 53 2 = -1 ∨ x < 0) (hg : ∀ a, a < 153 → gB a = (ltF f1) a) :
    Mk gB W m cl ∧ (0 ≤ (rpF gB W m cl) 136 11 ∨ ¬ 0 ≤ x) ∧ (mm_up (mm_up (rpF gB W m cl) 136 0 1) 136 30 0) 136 0 = 1 ∧ IV (mm_up (mm_up (rpF gB W m cl) 136 0 1) 136 30 0) := by
  have e1 : ∀ a, ¬ a = 134 → f1 a = f a := fun a ha => by rw [hf1, mm_up_off _ _ ha, mm_up_off _ _ ha]
  have lf := ltF_fr f1
  have gr : ∀ a, a < 153 → ¬ a = 53 → ¬ (56 ≤ a ∧ a < 136) → gB a = f a := fun a q1 q2 q3 => by
    rw [hg a q1]
    funext j
    rw [lf a j (by omega) (by omega), e1 a (by omega)]
  obtain ⟨hT, hR, ⟨w1, w2, w3, w4⟩, hvv, ⟨u, u1, u2, u3, u4⟩, ⟨c, c1, c2⟩, hB⟩ := id h
  have hs : kS f1 gB W m cl := by
    obtain ⟨a1, a2, a3, a4, a5, a6, a7⟩ := kS_of hT hR w1 w2 w4
    refine ⟨by rw [e1 53 (by omega)]; exact a1, a2, fun i hi => by rw [e1 54 (by omega), gr 142 (by omega) (by omega) (by omega)]; exact a3 i hi, by rw [e1 2 (by omega)]; exact a4, a5, fun t ht => by rw [e1 _ (by omega), gr 137 (by omega) (by omega) (by omega)]; exact a6 t ht, fun t c ht hc => by rw [e1 _ (by omega), gr 138 (by omega) (by omega) (by omega)]; exact a7 t c ht hc⟩
  have rf := rpF_fr (W := W) (m := m) (cl := cl) gB
  generalize hG : mm_up (mm_up (rpF gB W m cl) 136 0 1) 136 30 0 = G
  have row : ∀ a, ¬ a = 136 → ¬ a = 143 → ¬ a = 144 → ¬ a = 145 → G a = gB a := fun a q1 q2 q3 q4 => by
    rw [← hG, mm_up_off _ _ q1, mm_up_off _ _ q1]
    exact funext fun j => rf a j (by omega) q2 q3 q4
  have col : ∀ j, j = 1 ∨ j = 5 ∨ j = 8 ∨ j = 20 ∨ j = 29 → G 136 j = f 136 j := fun j q => by
    rw [← hG, mm_up_ne _ _ (by omega), mm_up_ne _ _ (by omega), rf 136 j (by omega) (by omega) (by omega) (by omega), gr 136 (by omega) (by omega) (by omega)]
  obtain ⟨hT', hR'⟩ := both_frame1 (g := G) hT hR (fun a q1 q2 => by rw [row a (by omega) (by omega) (by omega) (by omega), gr a (by omega) (by omega) (by omega)]) (col 1 (by omega)) (col 5 (by omega)) (fun a q1 q2 => by rw [row a (by omega) (by omega) (by omega) (by omega), gr a (by omega) (by omega) (by omega)])
  refine ⟨⟨by rw [gr 136 (by omega) (by omega) (by omega)]; exact w3, w2, by rw [gr 136 (by omega) (by omega) (by omega)]; exact hR.1, hT.2.1, fun t ht => ⟨by rw [gr 137 (by omega) (by omega) (by omega)]; exact hR.2.2.2.2.1 t ht, (hT.2.2.1 t ht).2.2.1⟩⟩, ?_, ?_, m, R, W, nn, cl, hT', hR', ⟨?_, w2, ?_, fun i hi => ?_⟩, ?_, ⟨0, by omega, ?_, ?_, fun j hj => by omega⟩, ⟨c, c1, ?_⟩, fun t c ht hc => ?_⟩
  · rcases hw with z | z
    · rcases look_alike hs with ⟨q, q1, q2, q3⟩ | ⟨k, t, p, N, P, V, _, _, _, _, _, _, ⟨z1, _⟩, _⟩
      · exact Or.inl (by rw [q3]; exact nI_pos' (by omega))
      · exact absurd z1 z
    · exact Or.inr (Int32.not_le.mpr z)
  · rw [← hG, mm_up_ne _ _ (by omega), mm_up_eq]
  · rw [row 53 (by omega) (by omega) (by omega) (by omega), hg 53 (by omega), lf 53 1 (by omega) (by omega), e1 53 (by omega)]; exact w1
  · rw [col 8 (by omega)]; exact w3
  · rw [row 54 (by omega) (by omega) (by omega) (by omega), gr 54 (by omega) (by omega) (by omega), row 142 (by omega) (by omega) (by omega) (by omega), gr 142 (by omega) (by omega) (by omega)]; exact w4 i hi
  · rw [row 1 (by omega) (by omega) (by omega) (by omega), gr 1 (by omega) (by omega) (by omega), col 29 (by omega)]; exact hvv
  · rw [row 134 (by omega) (by omega) (by omega) (by omega), hg 134 (by omega), lf 134 1 (by omega) (by omega), hf1, mm_up_ne _ _ (by omega), mm_up_eq]; rfl
  · rw [← hG, mm_up_eq]; rfl
  · rw [col 20 (by omega)]; exact c2
  · rw [row _ (by omega) (by omega) (by omega) (by omega), gr _ (by omega) (by omega) (by omega)]; exact hB t c ht hc
