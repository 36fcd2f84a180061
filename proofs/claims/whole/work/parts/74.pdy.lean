/-! Pure: class and reference in the midst of a run: the states, and what follows a class's answer. -/
def kdF (N : Nat) (f : mm_F) (i : Nat) : Int32 := if i < N then f (56 + 2 * i) 0 else 0
def owF (N : Nat) (f : mm_F) (i : Nat) : Nat := if i < N then (if f (56 + 2 * i) 0 = 10 then (if ¬ f (56 + 2 * i) 7 = 0 ∧ f (56 + 2 * i) 8 = 0 then 1 else 0) else if f (56 + 2 * i) 0 = 8 ∨ f (56 + 2 * i) 0 = 9 then (if f (56 + 2 * i) 8 = 0 then 1 else 0) else 0) else 0
def rmF (n F : Nat) (f : mm_F) : Nat := F - (f n 4).toNatClampNeg
def gmS (n N F : Nat) (f : mm_F) (fl s : Nat) : Nat := gm (kdF N f) (owF N f) (rmF n F f) fl s
def sgS (n N F : Nat) (f : mm_F) (fl : Nat) : Nat := sg (kdF N f) (owF N f) (rmF n F f) fl N
def tv (n N F : Nat) (f : mm_F) (fl : Nat) : Prop := ∀ i, i + 1 < N → f (56 + 2 * (i + 1)) 0 = 10 → ∃ T, f (56 + 2 * (i + 1)) 7 = nI T ∧ T + (gmS n N F f fl i + if fl = i + 1 then 1 else 0) ≤ F + 1
theorem kdF_fr {n N a : Nat} {f f1 : mm_F} (h : vfr f f1 n a) (hn : 153 ≤ n) (hN : N ≤ 39) (ha : a < N) : kdF N f1 = kdF N f := by
  funext i
  unfold kdF
  by_cases q : i < N
  · rw [if_pos q, if_pos q, h _ 0 (by omega) (by omega) (by omega) (by omega)]
  · rw [if_neg q, if_neg q]
theorem vfr.other {n N a i j : Nat} {f f1 : mm_F} (h : vfr f f1 n a) (hn : 153 ≤ n) (hN : N ≤ 39) (hi : i < N) (hia : ¬ i = a) : f1 (56 + 2 * i) j = f (56 + 2 * i) j := h _ j (by omega) (by omega) (by omega) (by omega)
theorem owF_fr {n N a i : Nat} {f f1 : mm_F} (h : vfr f f1 n a) (hn : 153 ≤ n) (hN : N ≤ 39) (hia : ¬ i = a) : owF N f1 i = owF N f i := by
  unfold owF
  by_cases q : i < N
  · rw [if_pos q, if_pos q, h.other hn hN q hia, h.other hn hN q hia, h.other hn hN q hia]
  · rw [if_neg q, if_neg q]
theorem mv_gen {n N F a fl fl' : Nat} {f f1 : mm_F} (h : vfr f f1 n a) (hn : 153 ≤ n) (hN : N ≤ 39) (ha : a < N) (hr : rmF n F f1 ≤ rmF n F f) (hfl : fl' = 0 ∨ fl' = a + 1) (hg : gmS n N F f1 fl' a + (if fl' = a + 1 then 1 else 0) ≤ gmS n N F f fl a) (hT : tv n N F f fl) (hTa : ∀ i T, i + 1 = a → f (56 + 2 * a) 0 = 10 → f (56 + 2 * a) 7 = nI T → ∃ T', f1 (56 + 2 * a) 7 = nI T' ∧ T' ≤ T + if fl = a then 1 else 0) :
    tv n N F f1 fl' ∧ ∀ s, gmS n N F f1 fl' s ≤ gmS n N F f fl s := by
  have ek := kdF_fr h hn hN ha
  have ho : ∀ s, ¬ s = a → owF N f1 s ≤ owF N f s := fun s hs => Nat.le_of_eq (owF_fr h hn hN hs)
  unfold gmS at hg
  rw [ek] at hg
  refine ⟨fun i hi hk => ?_, fun s => ?_⟩
  · have inn := gm_in hr ho hfl hg i
    have k0 : f1 (56 + 2 * (i + 1)) 0 = f (56 + 2 * (i + 1)) 0 := h _ 0 (by omega) (by omega) (by omega) (by omega)
    rw [k0] at hk
    obtain ⟨T, T1, T2⟩ := hT i hi hk
    unfold gmS at T2 ⊢
    rw [ek]
    by_cases q : i + 1 = a
    · rw [q] at T1 hk
      obtain ⟨T', T3, T4⟩ := hTa i T q hk T1
      refine ⟨T', by rw [q]; exact T3, ?_⟩
      have low := gm_low (kd := kdF N f) (ow := owF N f) (fl := fl) hr (fun s hs => ho s (by omega)) (show fl' = 0 ∨ a < fl' by omega) i (by omega)
      rw [if_neg (show ¬ fl' = i + 1 by omega)]
      rw [q] at T2
      omega
    · exact ⟨T, by rw [h.other hn hN hi q]; exact T1, by omega⟩
  · unfold gmS
    rw [ek]
    exact gm_all hr ho hfl hg s
/-- a move at a that gives a row -/
theorem mv_give {n N F a fl fl' : Nat} {f f1 : mm_F} (h : vfr f f1 n a) (hn : 153 ≤ n) (hN : N ≤ 39) (ha : a < N) (hr : rmF n F f1 ≤ rmF n F f) (hfl : fl' = 0 ∨ fl' = a + 1) (hg : gmS n N F f1 fl' a + 1 ≤ gmS n N F f fl a) (hT : tv n N F f fl) (hTa : ∀ i T, i + 1 = a → f (56 + 2 * a) 0 = 10 → f (56 + 2 * a) 7 = nI T → ∃ T', f1 (56 + 2 * a) 7 = nI T' ∧ T' ≤ T + if fl = a then 1 else 0) :
    tv n N F f1 fl' ∧ sgS n N F f1 fl' + 1 ≤ sgS n N F f fl := by
  obtain ⟨z1, z2⟩ := mv_gen h hn hN ha hr hfl (by split <;> omega) hT hTa
  refine ⟨z1, ?_⟩
  have ek := kdF_fr h hn hN ha
  unfold sgS
  unfold gmS at z2 hg
  rw [ek] at z2 hg ⊢
  exact sg_lt z2 hg N ha
theorem mv_rest {n N F a fl : Nat} {f f1 : mm_F} (h : vfr f f1 n a) (hn : 153 ≤ n) (hN : N ≤ 39) (ha : a < N) (hr : rmF n F f1 ≤ rmF n F f) (hg : gmS n N F f1 0 a ≤ gmS n N F f fl a) (hT : tv n N F f fl) (hTa : ∀ i T, i + 1 = a → f (56 + 2 * a) 0 = 10 → f (56 + 2 * a) 7 = nI T → ∃ T', f1 (56 + 2 * a) 7 = nI T' ∧ T' ≤ T + if fl = a then 1 else 0) :
    tv n N F f1 0 ∧ sgS n N F f1 0 ≤ sgS n N F f fl := by
  obtain ⟨z1, z2⟩ := mv_gen h hn hN ha hr (Or.inl rfl) (by rw [if_neg (by omega)]; exact hg) hT hTa
  refine ⟨z1, ?_⟩
  have ek := kdF_fr h hn hN ha
  unfold sgS
  unfold gmS at z2
  rw [ek] at z2 ⊢
  exact sg_le z2 N
theorem gmS_5 {n N F a fl : Nat} {f : mm_F} (ha : a < N) (h1 : 1 ≤ a) (hk : f (56 + 2 * a) 0 = 5) : gmS n N F f fl a = rmF n F f := by
  obtain ⟨s, rfl⟩ : ∃ s, a = s + 1 := ⟨a - 1, by omega⟩
  unfold gmS
  rw [gm_succ]
  unfold kdF owF
  rw [if_pos ha, if_pos ha, hk]
  rfl
theorem gmS_8 {n N F a fl : Nat} {f : mm_F} (ha : a < N) (h1 : 1 ≤ a) (hk : f (56 + 2 * a) 0 = 8 ∨ f (56 + 2 * a) 0 = 9) : gmS n N F f fl a = if f (56 + 2 * a) 8 = 0 then 1 else 0 := by
  obtain ⟨s, rfl⟩ : ∃ s, a = s + 1 := ⟨a - 1, by omega⟩
  unfold gmS
  rw [gm_succ]
  unfold kdF owF
  rw [if_pos ha, if_pos ha]
  rcases hk with hk | hk <;> rw [hk] <;> simp <;> decide
theorem gmS_p {n N F a fl : Nat} {f : mm_F} (ha : a < N) (h1 : 1 ≤ a) (k5 : ¬ f (56 + 2 * a) 0 = 5) (k8 : ¬ (f (56 + 2 * a) 0 = 8 ∨ f (56 + 2 * a) 0 = 9)) : gmS n N F f fl a = gmS n N F f fl (a - 1) + (if fl = a then 1 else 0) + owF N f a := by
  obtain ⟨s, rfl⟩ : ∃ s, a = s + 1 := ⟨a - 1, by omega⟩
  unfold gmS
  rw [gm_succ]
  have e : kdF N f (s + 1) = f (56 + 2 * (s + 1)) 0 := by unfold kdF; rw [if_pos ha]
  rw [e, if_neg k5, if_neg k8]
  rfl
theorem gmS_low {n N F a fl fl' : Nat} {f f1 : mm_F} (h : vfr f f1 n a) (hn : 153 ≤ n) (hN : N ≤ 39) (ha : a < N) (h1 : 1 ≤ a) (hr : rmF n F f1 ≤ rmF n F f) (hfl : fl' = 0 ∨ fl' = a + 1) : gmS n N F f1 fl' (a - 1) ≤ gmS n N F f fl (a - 1) := by
  unfold gmS
  rw [kdF_fr h hn hN ha]
  exact gm_low (a := a) hr (fun s hs => Nat.le_of_eq (owF_fr h hn hN (by omega))) (by omega) (a - 1) (by omega)
def dy (n N m R W F : Nat) (cl nn P V : Nat → Nat) (t0 : Nat) (L : Nat → Nat → List Nat) (f g : mm_F) : Prop := cx n N m R W F cl nn P V t0 L f g ∧ (∀ i, i < N → sr m cl nn P V t0 L f g i) ∧ (∃ v, v ≤ F ∧ f n 4 = nI v ∧ g 136 17 = nI v) ∧ (g 136 18 = 0 ∧ g 136 19 = 0) ∧ ∃ u c, outA f g u ∧ f 134 2 = nI c ∧ u = c * V N
theorem dy.move {n N m R W F t0 : Nat} {cl nn P V : Nat → Nat} {L : Nat → Nat → List Nat} {f f1 g g1 : mm_F} {a : Nat} (h : dy n N m R W F cl nn P V t0 L f g) (ha : a < N) (hf : vfr f f1 n a) (hg : gfr g g1 a) (hs : sr m cl nn P V t0 L f1 g1 a) (hv : ∃ v, v ≤ F ∧ f1 n 4 = nI v ∧ g1 136 17 = nI v) : dy n N m R W F cl nn P V t0 L f1 g1 := by
  obtain ⟨hc, h1, _, ⟨h3, h4⟩, u, c, h5, h6, h7⟩ := h
  obtain ⟨⟨a1, a2, a3, a4, a5, a6, a7⟩, _, _, _, e1, v1, ⟨s1, s2, s3, _⟩, _⟩ := id hc
  refine ⟨hc.of (hf.cfr a1 (by omega)) hg.dgr, fun i hi => ?_, hv, ⟨?_, ?_⟩, u, c, ?_, ?_, h7⟩
  · by_cases q : i = a
    · rw [q]; exact hs
    · have d := hg.dgr
      refine (h1 i hi).of a4 s1 (fun t ht => (e1 t ht).2.2.1) ?_ (funext fun j => hf 54 j (by omega) (by omega) (by omega) (by omega)) (fun j => hf _ j (by omega) (by omega) (by omega) (by omega)) (fun j => hf _ j (by omega) (by omega) (by omega) (by omega)) d.1 (d.2.1 142 (by omega) (by omega)) (d.2.1 143 (by omega) (by omega)) (hg 147 i (by omega) (by omega) (by omega) (by omega)) (hg 148 i (by omega) (by omega) (by omega) (by omega)) (hg 149 i (by omega) (by omega) (by omega) (by omega)) (fun j hj => hg 150 _ (by omega) (by omega) (by omega) (by omega)) (fun z => ⟨hg 136 26 (by omega) (by omega) (by omega) (by omega), hg 136 27 (by omega) (by omega) (by omega) (by omega), hg 136 28 (by omega) (by omega) (by omega) (by omega)⟩)
      by_cases z : i = 0
      · refine Or.inr ⟨z, fun e => ?_⟩
        rcases s3 with s3 | s3 <;> rw [s3] at e <;> exact absurd e (by decide)
      · exact Or.inl (v1 i (by omega) (by omega)).1
  · rw [hg 136 18 (by omega) (by omega) (by omega) (by omega)]; exact h3
  · rw [hg 136 19 (by omega) (by omega) (by omega) (by omega)]; exact h4
  · obtain ⟨o1, o2, o3, o4⟩ := h5
    refine ⟨?_, ?_, o3, fun j hj => ?_⟩
    · rw [hf 134 1 (by omega) (by omega) (by omega) (by omega)]; exact o1
    · rw [hg 136 30 (by omega) (by omega) (by omega) (by omega)]; exact o2
    · rw [hf 135 j (by omega) (by omega) (by omega) (by omega), hg 151 j (by omega) (by omega) (by omega) (by omega)]; exact o4 j hj
  · rw [hf 134 2 (by omega) (by omega) (by omega) (by omega)]; exact h6
/-- step i of the reference answers when it is asked: a join that holds a row, a limit that is reached -/
def CA (g : mm_F) (i : Nat) : Prop := (g 143 i = 5 ∧ ¬ g 149 i = 0) ∨ (0 < i ∧ g 143 i = 7 ∧ g 147 i = pw g i 0)
/-- the base against the steps that are over -/
def cb (N : Nat) (f : mm_F) (b : Nat) : Prop := (∀ i, b ≤ i → i < N → f (56 + 2 * i) 8 = 0) ∧ (1 ≤ b → 2 ≤ b ∧ b ≤ N ∧ ¬ f (56 + 2 * (b - 1)) 8 = 0 ∧ (f (56 + 2 * (b - 1)) 0 = 8 ∨ f (56 + 2 * (b - 1)) 0 = 9 ∨ f (56 + 2 * (b - 1)) 0 = 10))
def stt (n N m R W F : Nat) (cl nn P V : Nat → Nat) (t0 : Nat) (L : Nat → Nat → List Nat) (f g : mm_F) (a : Nat) (w : Int32) (b : Nat) : Prop := dy n N m R W F cl nn P V t0 L f g ∧ a < N ∧ (∀ i, a < i → i < N → ¬ CA g i) ∧
  ((w = 0 ∧ b ≤ a + 1 ∧ cb N f b ∧ tv n N F f 0) ∨
   (w = 1 ∧ 1 ≤ a ∧ b ≤ a ∧ cb N f b ∧ tv n N F f a ∧ ¬ CA g a ∧ rowA f g n (V a) ∧ g 136 20 = nI (V a)) ∨
   (w = 2 ∧ 1 ≤ a ∧ b = a ∧ (∀ i, a ≤ i → i < N → f (56 + 2 * i) 8 = 0) ∧ tv n N F f 0 ∧ ¬ CA g a))
/-- where the reference stands -/
def hd (N : Nat) (g : mm_F) (a : Nat) (w : Int32) : mm_F := if w = 1 then puF (N - a) g a else g
def ms (n N F : Nat) (f : mm_F) (a : Nat) (w : Int32) (b : Nat) : Nat := 2 * sgS n N F f (if w = 1 then a else 0) + 4 * (N - b) + (if w = 2 then 0 else 2) + a
def fin (n N m R W F : Nat) (cl nn P V : Nat → Nat) (t0 : Nat) (L : Nat → Nat → List Nat) (r : Int32) (f z : mm_F) : Prop := (r = 2 ∧ dy n N m R W F cl nn P V t0 L f z) ∨ (r = 3 ∧ z 136 18 = 1) ∨ (r = 4 ∧ z 136 18 = 0 ∧ z 136 19 = 1)
def res (n N m R W F : Nat) (cl nn P V : Nat → Nat) (t0 : Nat) (L : Nat → Nat → List Nat) (f : mm_F) (a : Nat) (w : Int32) (M : Nat) (G : mm_F) (b : Nat) : Prop :=
  (∃ r f1 a1 w1 k z, nxM f n (N - 1) a w = (some r, f1, a1, w1) ∧ grM k G N R b = some z ∧ fin n N m R W F cl nn P V t0 L r f1 z) ∨
  (∃ f1 a1 w1 g1 b1, nxM f n (N - 1) a w = (none, f1, a1, w1) ∧ stt n N m R W F cl nn P V t0 L f1 g1 a1 w1 b1 ∧ ms n N F f1 a1 w1 b1 < M ∧ ∀ k z, grM k (hd N g1 a1 w1) N R b1 = some z → ∃ k', grM k' G N R b = some z)
theorem res.turn {n N m R W F t0 : Nat} {cl nn P V : Nat → Nat} {L : Nat → Nat → List Nat} {f G : mm_F} {a b M : Nat} {w : Int32} (hb : b < N) (h18 : G 136 18 = 0) (h19 : G 136 19 = 0) (h : res n N m R W F cl nn P V t0 L f a w M (gI G N R b).1 (gI G N R b).2) : res n N m R W F cl nn P V t0 L f a w M G b := by
  have e : ∀ k, grM (k + 1) G N R b = grM k (gI G N R b).1 N R (gI G N R b).2 := fun k => by
    show (if N ≤ b ∨ ¬ G 136 18 = 0 ∨ ¬ G 136 19 = 0 then some G else grM k (gI G N R b).1 N R (gI G N R b).2) = _
    rw [if_neg (by rw [h18, h19]; simp; omega)]
  rcases h with ⟨r, f1, a1, w1, k, z, h1, h2, h3⟩ | ⟨f1, a1, w1, g1, b1, h1, h2, h3, h4⟩
  · exact Or.inl ⟨r, f1, a1, w1, k + 1, z, h1, by rw [e]; exact h2, h3⟩
  · refine Or.inr ⟨f1, a1, w1, g1, b1, h1, h2, h3, fun k z hz => ?_⟩
    obtain ⟨k', hk'⟩ := h4 k z hz
    exact ⟨k' + 1, by rw [e]; exact hk'⟩
/-- the class's step has nothing: the step before is asked -/
theorem res_0 {n N m R W F t0 : Nat} {cl nn P V : Nat → Nat} {L : Nat → Nat → List Nat} {f f1 g1 : mm_F} {a b M : Nat} {w : Int32} (he : reF f n a w = (f1, 0)) (hd1 : dy n N m R W F cl nn P V t0 L f1 g1) (ha : 1 ≤ a) (haN : a < N) (hb : b ≤ a) (hc : ∀ i, a ≤ i → i < N → ¬ CA g1 i) (hcb : cb N f1 b) (ht : tv n N F f1 0) (hM : 2 * sgS n N F f1 0 + 4 * (N - b) + a + 1 < M) : res n N m R W F cl nn P V t0 L f a w M g1 b := by
  refine Or.inr ⟨f1, a - 1, 0, g1, b, ?_, ⟨hd1, by omega, fun i h1 h2 => hc i (by omega) h2, Or.inl ⟨rfl, by omega, hcb, ht⟩⟩, ?_, fun k z hz => ⟨k, hz⟩⟩
  · unfold nxM; rw [he]; rfl
  · show 2 * sgS n N F f1 0 + 4 * (N - b) + 2 + (a - 1) < M
    omega
/-- the class's step tells that it is at its end -/
theorem res_2 {n N m R W F t0 : Nat} {cl nn P V : Nat → Nat} {L : Nat → Nat → List Nat} {f f1 g1 : mm_F} {a M : Nat} {w : Int32} (he : reF f n a w = (f1, 2)) (hd1 : dy n N m R W F cl nn P V t0 L f1 g1) (haN : a < N) (hc : ∀ i, a < i → i < N → ¬ CA g1 i) (ho : ∀ i, a < i → i < N → f1 (56 + 2 * i) 8 = 0) (ht : tv n N F f1 0) (hM : 2 * sgS n N F f1 0 + 4 * (N - (a + 1)) + a + 1 < M) : res n N m R W F cl nn P V t0 L f a w M g1 (a + 1) := by
  have hx : nxM f n (N - 1) a w = if a < N - 1 then (none, f1, a + 1, 2) else (some 2, f1, a, 2) := by unfold nxM; rw [he]; rfl
  by_cases q : a + 1 < N
  · refine Or.inr ⟨f1, a + 1, 2, g1, a + 1, ?_, ⟨hd1, q, fun i h1 h2 => hc i (by omega) h2, Or.inr (Or.inr ⟨rfl, by omega, rfl, fun i h1 h2 => ho i (by omega) h2, ht, hc _ (by omega) q⟩)⟩, ?_, fun k z hz => ⟨k, hz⟩⟩
    · rw [hx, if_pos (by omega)]
    · show 2 * sgS n N F f1 0 + 4 * (N - (a + 1)) + 0 + (a + 1) < M
      omega
  · refine Or.inl ⟨2, f1, a, 2, 1, g1, ?_, ?_, Or.inl ⟨rfl, hd1⟩⟩
    · rw [hx, if_neg (by omega)]
    · show (if N ≤ a + 1 ∨ _ then some g1 else _) = some g1
      rw [if_pos (Or.inl (by omega))]
/-- the class's step has no fuel left -/
theorem res_3 {n N m R W F t0 : Nat} {cl nn P V : Nat → Nat} {L : Nat → Nat → List Nat} {f f1 G z : mm_F} {a b M k : Nat} {w : Int32} (he : reF f n a w = (f1, 3)) (hg : grM k G N R b = some z) (hz : z 136 18 = 1) : res n N m R W F cl nn P V t0 L f a w M G b :=
  Or.inl ⟨3, f1, a, 3, k, z, by unfold nxM; rw [he]; rfl, hg, Or.inr (Or.inl ⟨rfl, hz⟩)⟩
theorem ouF_rows (g : mm_F) : (∀ x j, ¬ x = 151 → ¬ (x = 136 ∧ (j = 19 ∨ j = 30)) → (ouF g) x j = g x j) := by
  intro x j h1 h2
  unfold ouF
  split
  · rw [mm_up_ne _ _ (by omega), ouL_off _ h1, mm_up_ne _ _ (by omega)]
  · rw [mm_up_ne _ _ (by omega), mm_up_ne _ _ (by omega)]
/-- the class's step gives a row -/
theorem res_1 {n N m R W F t0 : Nat} {cl nn P V : Nat → Nat} {L : Nat → Nat → List Nat} {f f1 g1 : mm_F} {a b M : Nat} {w : Int32} (he : reF f n a w = (f1, 1)) (hd1 : dy n N m R W F cl nn P V t0 L f1 g1) (haN : a < N) (hb : b ≤ a + 1) (hc : ∀ i, a < i → i < N → ¬ CA g1 i) (hcb : cb N f1 b) (hr : rowA f1 g1 n (V (a + 1))) (h20 : g1 136 20 = nI (V (a + 1))) (hT : ∀ fl, fl = 0 ∨ fl = a + 1 → tv n N F f1 fl ∧ 2 * sgS n N F f1 fl + 4 * (N - b) + 2 + (a + 1) < M) : res n N m R W F cl nn P V t0 L f a w M (puF (N - (a + 1)) g1 (a + 1)) b := by
  by_cases q : a + 1 < N
  · obtain ⟨t1, t2⟩ := hT (a + 1) (Or.inr rfl)
    refine Or.inr ⟨f1, a + 1, 1, g1, b, ?_, ⟨hd1, q, fun i h1 h2 => hc i (by omega) h2, Or.inr (Or.inl ⟨rfl, by omega, hb, hcb, t1, hc _ (by omega) q, hr, h20⟩)⟩, ?_, fun k z hz => ⟨k, hz⟩⟩
    · unfold nxM; rw [he]
      show (if a < N - 1 then _ else _) = _
      rw [if_pos (by omega)]
    · show 2 * sgS n N F f1 (a + 1) + 4 * (N - b) + 2 + (a + 1) < M
      exact t2
  · have e : a + 1 = N := by omega
    obtain ⟨t1, t2⟩ := hT 0 (Or.inl rfl)
    obtain ⟨hcx, h1, h2, ⟨h3, h4⟩, u, c, h5, h6, h7⟩ := id hd1
    obtain ⟨⟨a1, a2, a3, a4, a5, a6, a7⟩, ⟨b1, b2, b3⟩, _, _, e1, v1, ⟨s1, s2, s3, _⟩, _⟩ := id hcx
    have hV := v1 N a2 (Nat.le_refl _)
    obtain ⟨o1, o2, o3, o4⟩ := id h5
    rw [e] at hr h20
    have hp : puF (N - (a + 1)) g1 (a + 1) = ouF g1 := by rw [e, Nat.sub_self]; rfl
    rw [hp]
    have u1 := nI_clamp (n := u) (by omega)
    have v2 := nI_clamp (n := V N) (by omega)
    have hx : nxM f n (N - 1) a w = if u + V N ≤ 64 then (none, mm_up (mm_up (ocp f1 (n + 1) u (V N)) 134 1 (nI (u + V N))) 134 2 (f1 134 2 + 1), a, 0) else (some 4, f1, a, 0) := by
      unfold nxM
      rw [he]
      show (if a < N - 1 then _ else if (f1 134 1).toNatClampNeg + (f1 53 3).toNatClampNeg ≤ 64 then (none, mm_up (mm_up (ocp f1 (n + 1) (f1 134 1).toNatClampNeg (f1 53 3).toNatClampNeg) 134 1 (nI ((f1 134 1).toNatClampNeg + (f1 53 3).toNatClampNeg))) 134 2 (f1 134 2 + 1), a, 0) else (some 4, f1, a, 0)) = _
      rw [if_neg (by omega), o1, b3, u1, v2]
    have fr := ouF_rows g1
    by_cases hu : u + V N ≤ 64
    · rw [if_pos hu] at hx
      obtain ⟨z1, z2⟩ := out_add (x := f1 134 2 + 1) h5 hr a1 h20 hV.1 hu
      generalize hf2 : mm_up (mm_up (ocp f1 (n + 1) u (V N)) 134 1 (nI (u + V N))) 134 2 (f1 134 2 + 1) = f2 at hx z1
      have f2r : ∀ x j, ¬ x = 134 → ¬ x = 135 → f2 x j = f1 x j := fun x j q1 q2 => by
        rw [← hf2, mm_up_ne _ _ (by omega), mm_up_ne _ _ (by omega)]
        unfold ocp
        rw [if_neg (fun z => q2 z.1)]
      have ek : kdF N f2 = kdF N f1 := by
        funext i
        unfold kdF
        by_cases z : i < N
        · rw [if_pos z, if_pos z, f2r _ _ (by omega) (by omega)]
        · rw [if_neg z, if_neg z]
      have eo : owF N f2 = owF N f1 := by
        funext i
        unfold owF
        by_cases z : i < N
        · rw [if_pos z, if_pos z, f2r _ _ (by omega) (by omega), f2r _ _ (by omega) (by omega), f2r _ _ (by omega) (by omega)]
        · rw [if_neg z, if_neg z]
      have er : rmF n F f2 = rmF n F f1 := by unfold rmF; rw [f2r _ _ (by omega) (by omega)]
      have et : tv n N F f2 0 := fun i hi hk => by
        rw [f2r _ _ (by omega) (by omega)] at hk
        obtain ⟨T, T1, T2⟩ := t1 i hi hk
        refine ⟨T, by rw [f2r _ _ (by omega) (by omega)]; exact T1, ?_⟩
        unfold gmS at T2 ⊢
        rw [ek, eo, er]; exact T2
      have es : sgS n N F f2 0 = sgS n N F f1 0 := by unfold sgS; rw [ek, eo, er]
      have dg : dgr g1 (ouF g1) := ⟨fun x hx => funext fun j => fr x j (by omega) (by omega), fun x q1 q2 => funext fun j => fr x j (by omega) (by omega), fr 136 16 (by omega) (by omega)⟩
      refine Or.inr ⟨f2, a, 0, ouF g1, b, hx, ⟨⟨hcx.of ⟨fun x hx => funext fun j => f2r x j (by omega) (by omega), fun i j q1 q2 => f2r _ j (by omega) (by omega), f2r n 3 (by omega) (by omega)⟩ dg, fun i hi => ?_, ?_, ⟨?_, z2⟩, u + V N, c + 1, z1, ?_, ?_⟩, haN, fun i q1 q2 => by omega, Or.inl ⟨rfl, by omega, ?_, et⟩⟩, ?_, fun k z hz => ⟨k, hz⟩⟩
      · refine (h1 i hi).of a4 s1 (fun t ht => (e1 t ht).2.2.1) ?_ (funext fun j => f2r 54 j (by omega) (by omega)) (fun j => f2r _ j (by omega) (by omega)) (fun j => f2r _ j (by omega) (by omega)) dg.1 (dg.2.1 142 (by omega) (by omega)) (dg.2.1 143 (by omega) (by omega)) (fr 147 i (by omega) (by omega)) (fr 148 i (by omega) (by omega)) (fr 149 i (by omega) (by omega)) (fun j hj => fr 150 _ (by omega) (by omega)) (fun z => ⟨fr 136 26 (by omega) (by omega), fr 136 27 (by omega) (by omega), fr 136 28 (by omega) (by omega)⟩)
        by_cases z : i = 0
        · refine Or.inr ⟨z, fun e => ?_⟩
          rcases s3 with s3 | s3 <;> rw [s3] at e <;> exact absurd e (by decide)
        · exact Or.inl (v1 i (by omega) (by omega)).1
      · obtain ⟨v, y1, y2, y3⟩ := h2
        exact ⟨v, y1, by rw [f2r _ _ (by omega) (by omega)]; exact y2, by rw [fr _ _ (by omega) (by omega)]; exact y3⟩
      · rw [fr _ _ (by omega) (by omega)]; exact h3
      · rw [← hf2, mm_up_eq, h6, nI_1]
      · rw [h7, Nat.succ_mul]
      · obtain ⟨y1, y2⟩ := hcb
        refine ⟨fun i q1 q2 => by rw [f2r _ _ (by omega) (by omega)]; exact y1 i q1 q2, fun q1 => ?_⟩
        obtain ⟨y3, y4, y5, y6⟩ := y2 q1
        rw [f2r _ _ (by omega) (by omega), f2r _ _ (by omega) (by omega)]
        exact ⟨y3, y4, y5, y6⟩
      · show 2 * sgS n N F f2 0 + 4 * (N - b) + 2 + a < M
        rw [es]; omega
    · rw [if_neg hu] at hx
      obtain ⟨z1, z2⟩ := out_full h5 h20 hV.1 hu
      refine Or.inl ⟨4, f1, a, 0, 1, ouF g1, hx, ?_, Or.inr (Or.inr ⟨rfl, ?_, z1⟩)⟩
      · show (if N ≤ b ∨ ¬ (ouF g1) 136 18 = 0 ∨ ¬ (ouF g1) 136 19 = 0 then some (ouF g1) else _) = some (ouF g1)
        rw [if_pos (Or.inr (Or.inr (by rw [z1]; decide)))]
      · rw [fr 136 18 (by omega) (by omega)]; exact h3
