/-! Pure: slots and rows when a row comes or leaves. -/
theorem nI_inj {a b : Nat} (ha : a ≤ 1000) (hb : b ≤ 1000) (h : nI a = nI b) : a = b := (nI_eq (by omega) (by omega)).mp h
theorem ofN_step (f : mm_F) (x : Int32) (R : Nat) : ofN f x (R + 1) = ofN f x R + (if f 140 R = x then 1 else 0) := by
  show cn (fun r => decide (f 140 r = x)) R + (if decide (f 140 R = x) = true then 1 else 0) = cn (fun r => decide (f 140 r = x)) R + _
  by_cases q : f 140 R = x
  · rw [if_pos q, decide_eq_true q]; rfl
  · rw [if_neg q, decide_eq_false q]; rfl
theorem ofN_add {f g : mm_F} {R : Nat} {y x : Int32} (h : ∀ r, g 140 r = if r = R then y else f 140 r) : ofN g x (R + 1) = ofN f x R + (if y = x then 1 else 0) := by
  rw [ofN_step, h, if_pos rfl]
  have : ofN g x R = ofN f x R := cn_congr (fun i hi => by rw [h, if_neg (by omega)])
  rw [this]
theorem RW.add {f g : mm_F} {t n cl R : Nat} {v : Nat → Int32} (h : RW f t n cl R) (hcl : cl ≤ 4) (hc : ∀ c, c < cl → ∀ s, tc g t c s = if s = n then v c else tc f t c s) (h1 : ∀ r, g 140 r = if r = R then nI t else f 140 r) (h2 : ∀ j, g 141 j = if 4 * R ≤ j ∧ j < 4 * R + 4 then v (j - 4 * R) else f 141 j) : RW g t (n + 1) cl (R + 1) := by
  obtain ⟨a1, a2, a3⟩ := h
  have old : ∀ r c, r < R → c < 4 → g 141 (4 * r + c) = f 141 (4 * r + c) := fun r c hr hc => by rw [h2, if_neg (by omega)]
  have new : ∀ c, c < 4 → g 141 (4 * R + c) = v c := fun c hc => by rw [h2, if_pos (by omega), show 4 * R + c - 4 * R = c by omega]
  refine ⟨fun s hs => ?_, fun r hr e => ?_, ?_⟩
  · by_cases z : s = n
    · exact ⟨R, by omega, by rw [h1, if_pos rfl], fun c hc' => by rw [new c (by omega), hc c hc', if_pos z]⟩
    · obtain ⟨r, r1, r2, r3⟩ := a1 s (by omega)
      exact ⟨r, by omega, by rw [h1, if_neg (by omega)]; exact r2, fun c hc' => by rw [old r c r1 (by omega), hc c hc', if_neg z]; exact r3 c hc'⟩
  · by_cases z : r = R
    · exact ⟨n, by omega, fun c hc' => by rw [z, new c (by omega), hc c hc', if_pos rfl]⟩
    · rw [h1, if_neg z] at e
      obtain ⟨s, s1, s2⟩ := a2 r (by omega) e
      exact ⟨s, by omega, fun c hc' => by rw [old r c (by omega) (by omega), hc c hc', if_neg (by omega)]; exact s2 c hc'⟩
  · rw [ofN_add h1, if_pos rfl, a3]
theorem RW.addO {f g : mm_F} {t u n cl R : Nat} {v : Nat → Int32} (h : RW f u n cl R) (hcl : cl ≤ 4) (hut : nI t ≠ nI u) (hc : ∀ c, c < cl → ∀ s, tc g u c s = tc f u c s) (h1 : ∀ r, g 140 r = if r = R then nI t else f 140 r) (h2 : ∀ j, g 141 j = if 4 * R ≤ j ∧ j < 4 * R + 4 then v (j - 4 * R) else f 141 j) : RW g u n cl (R + 1) := by
  obtain ⟨a1, a2, a3⟩ := h
  have old : ∀ r c, r < R → c < 4 → g 141 (4 * r + c) = f 141 (4 * r + c) := fun r c hr hc => by rw [h2, if_neg (by omega)]
  refine ⟨fun s hs => ?_, fun r hr e => ?_, ?_⟩
  · obtain ⟨r, r1, r2, r3⟩ := a1 s hs
    exact ⟨r, by omega, by rw [h1, if_neg (by omega)]; exact r2, fun c hc' => by rw [old r c r1 (by omega), hc c hc']; exact r3 c hc'⟩
  · by_cases z : r = R
    · rw [h1, if_pos z] at e
      exact absurd e hut
    · rw [h1, if_neg z] at e
      obtain ⟨s, s1, s2⟩ := a2 r (by omega) e
      exact ⟨s, s1, fun c hc' => by rw [old r c (by omega) (by omega), hc c hc']; exact s2 c hc'⟩
  · rw [ofN_add h1, if_neg hut, a3]; rfl
theorem RK.add {f g : mm_F} {R : Nat} {y : Int32} {v : Nat → Int32} (h : RK f R) (h1 : ∀ r, g 140 r = if r = R then y else f 140 r) (h2 : ∀ j, g 141 j = if 4 * R ≤ j ∧ j < 4 * R + 4 then v (j - 4 * R) else f 141 j) (hk : ∀ r, r < R → f 140 r = y → f 141 (4 * r) ≠ v 0) : RK g (R + 1) := by
  have old : ∀ r, r < R → g 141 (4 * r) = f 141 (4 * r) := fun r hr => by rw [h2, if_neg (by omega)]
  have new : g 141 (4 * R) = v 0 := by rw [h2, if_pos (by omega), show 4 * R - 4 * R = 0 by omega]
  intro r r' hr hr' e1 e2
  rw [h1, h1] at e1
  by_cases z : r = R
  · by_cases z' : r' = R
    · omega
    · rw [if_pos z, if_neg z'] at e1
      rw [z, new, old r' (by omega)] at e2
      exact absurd e2.symm (hk r' (by omega) e1.symm)
  · by_cases z' : r' = R
    · rw [if_neg z, if_pos z'] at e1
      rw [z', new, old r (by omega)] at e2
      exact absurd e2 (hk r (by omega) e1)
    · rw [if_neg z, if_neg z'] at e1
      rw [old r (by omega), old r' (by omega)] at e2
      exact h r r' (by omega) (by omega) e1 e2
theorem cn_put {P Q : Nat → Bool} {k : Nat} {b : Bool} (hQ : ∀ i, Q i = if i = k then b else P i) : ∀ n, k < n → cn Q n + (if P k = true then 1 else 0) = cn P n + (if b = true then 1 else 0)
  | 0, h => by omega
  | n + 1, h => by
    show cn Q n + (if Q n = true then 1 else 0) + _ = cn P n + (if P n = true then 1 else 0) + _
    by_cases z : n = k
    · have e : cn Q n = cn P n := cn_congr (fun i hi => by rw [hQ, if_neg (by omega)])
      rw [e, hQ, if_pos z, z]
      omega
    · have ih := cn_put hQ n (by omega)
      rw [hQ n, if_neg z]
      omega
theorem ofN_rem {f g : mm_F} {R r : Nat} {x : Int32} (hr : r < R) (h : ∀ q, g 140 q = if q = r then f 140 (R - 1) else f 140 q) : ofN g x (R - 1) + (if f 140 r = x then 1 else 0) = ofN f x R := by
  obtain ⟨k, rfl⟩ : ∃ k, R = k + 1 := ⟨R - 1, by omega⟩
  rw [Nat.add_sub_cancel] at h ⊢
  have eR := ofN_step f x k
  rw [eR]
  by_cases z : r = k
  · have e : ofN g x k = ofN f x k := cn_congr (fun i hi => by rw [h, if_neg (by omega)])
    rw [e, z]
  · have := cn_put (P := fun q => decide (f 140 q = x)) (Q := fun q => decide (g 140 q = x)) (k := r) (b := decide (f 140 k = x)) (fun i => by
      by_cases y : i = r
      · rw [if_pos y, h, if_pos y]
      · rw [if_neg y, h, if_neg y]) k (by omega)
    simp only [decide_eq_true_eq] at this
    exact this
/-- row r of the reference, which slot s of table t stands for, leaves -/
theorem RW.rem {f g : mm_F} {t n cl R s r : Nat} (h : RW f t n cl R) (hk : RK f R) (hcl0 : 1 ≤ cl) (hcl : cl ≤ 4) (hs : s < n) (hr : r < R) (ht : f 140 r = nI t) (hrs : f 141 (4 * r) = tc f t 0 s) (hd : ∀ a b, a < n → b < n → tc f t 0 a = tc f t 0 b → a = b)
    (hc : ∀ c, c < cl → ∀ x, tc g t c x = if x = s then tc f t c (n - 1) else tc f t c x) (h1 : ∀ q, g 140 q = if q = r then f 140 (R - 1) else f 140 q) (h2 : ∀ j, g 141 j = if 4 * r ≤ j ∧ j < 4 * r + 4 then f 141 (4 * (R - 1) + (j - 4 * r)) else f 141 j) : RW g t (n - 1) cl (R - 1) := by
  obtain ⟨a1, a2, a3⟩ := h
  have g1 : ∀ q c, c < 4 → g 141 (4 * q + c) = if q = r then f 141 (4 * (R - 1) + c) else f 141 (4 * q + c) := fun q c hc => by
    rw [h2]
    by_cases z : q = r
    · rw [if_pos z, if_pos (by omega), show 4 * q + c - 4 * r = c by omega]
    · rw [if_neg z, if_neg (by omega)]
  have row : ∀ x q, x < n → q < R → f 140 q = nI t → (∀ c, c < cl → f 141 (4 * q + c) = tc f t c x) → (x = s ↔ q = r) := fun x q x1 q1 q2 q3 => by
    have e0 := q3 0 hcl0
    rw [Nat.add_zero] at e0
    constructor
    · intro z
      refine hk q r q1 hr (q2.trans ht.symm) ?_
      rw [e0, hrs, z]
    · intro z
      refine hd x s x1 hs ?_
      rw [← e0, z, hrs]
  refine ⟨fun x hx => ?_, fun q hq e => ?_, ?_⟩
  · have core : ∀ y, y < n → y ≠ s → (∀ c, c < cl → tc g t c x = tc f t c y) → ∃ q, q < R - 1 ∧ g 140 q = nI t ∧ ∀ c, c < cl → g 141 (4 * q + c) = tc g t c x := fun y hy hys e => by
      obtain ⟨q, q1, q2, q3⟩ := a1 y hy
      have qr : q ≠ r := fun z => hys ((row y q hy q1 q2 q3).mpr z)
      by_cases z : q = R - 1
      · refine ⟨r, by omega, by rw [h1, if_pos rfl, ← z]; exact q2, fun c hc' => ?_⟩
        rw [g1 r c (by omega), if_pos rfl, e c hc', ← z]; exact q3 c hc'
      · refine ⟨q, by omega, by rw [h1, if_neg qr]; exact q2, fun c hc' => ?_⟩
        rw [g1 q c (by omega), if_neg qr, e c hc']; exact q3 c hc'
    by_cases z : x = s
    · exact core (n - 1) (by omega) (by omega) (fun c hc' => by rw [hc c hc', if_pos z])
    · exact core x (by omega) z (fun c hc' => by rw [hc c hc', if_neg z])
  · have core : ∀ p, p < R → p ≠ r → f 140 p = nI t → (∀ c, c < cl → g 141 (4 * q + c) = f 141 (4 * p + c)) → ∃ x, x < n - 1 ∧ ∀ c, c < cl → g 141 (4 * q + c) = tc g t c x := fun p hp hpr ep e' => by
      obtain ⟨x, x1, x2⟩ := a2 p hp ep
      have xs : x ≠ s := fun z => hpr ((row x p x1 hp ep x2).mp z)
      by_cases z : x = n - 1
      · refine ⟨s, by omega, fun c hc' => ?_⟩
        rw [e' c hc', hc c hc', if_pos rfl, ← z]; exact x2 c hc'
      · refine ⟨x, by omega, fun c hc' => ?_⟩
        rw [e' c hc', hc c hc', if_neg xs]; exact x2 c hc'
    by_cases z : q = r
    · rw [h1, if_pos z] at e
      exact core (R - 1) (by omega) (by omega) e (fun c hc' => by rw [g1 q c (by omega), if_pos z])
    · rw [h1, if_neg z] at e
      exact core q (by omega) z e (fun c hc' => by rw [g1 q c (by omega), if_neg z])
  · have := ofN_rem (x := nI t) hr h1
    rw [if_pos ht, a3] at this
    omega
theorem RW.remO {f g : mm_F} {t u n cl R r : Nat} (h : RW f u n cl R) (hcl : cl ≤ 4) (hr : r < R) (ht : f 140 r = nI t) (hut : nI t ≠ nI u) (hc : ∀ c, c < cl → ∀ x, tc g u c x = tc f u c x)
    (h1 : ∀ q, g 140 q = if q = r then f 140 (R - 1) else f 140 q) (h2 : ∀ j, g 141 j = if 4 * r ≤ j ∧ j < 4 * r + 4 then f 141 (4 * (R - 1) + (j - 4 * r)) else f 141 j) : RW g u n cl (R - 1) := by
  obtain ⟨a1, a2, a3⟩ := h
  have g1 : ∀ q c, c < 4 → g 141 (4 * q + c) = if q = r then f 141 (4 * (R - 1) + c) else f 141 (4 * q + c) := fun q c hc => by
    rw [h2]
    by_cases z : q = r
    · rw [if_pos z, if_pos (by omega), show 4 * q + c - 4 * r = c by omega]
    · rw [if_neg z, if_neg (by omega)]
  refine ⟨fun x hx => ?_, fun q hq e => ?_, ?_⟩
  · obtain ⟨q, q1, q2, q3⟩ := a1 x hx
    have qr : q ≠ r := fun z => hut (by rw [← ht, ← z]; exact q2)
    by_cases z : q = R - 1
    · refine ⟨r, by omega, by rw [h1, if_pos rfl, ← z]; exact q2, fun c hc' => ?_⟩
      rw [g1 r c (by omega), if_pos rfl, hc c hc', ← z]; exact q3 c hc'
    · refine ⟨q, by omega, by rw [h1, if_neg qr]; exact q2, fun c hc' => ?_⟩
      rw [g1 q c (by omega), if_neg qr, hc c hc']; exact q3 c hc'
  · by_cases z : q = r
    · rw [h1, if_pos z] at e
      obtain ⟨x, x1, x2⟩ := a2 (R - 1) (by omega) e
      exact ⟨x, x1, fun c hc' => by rw [g1 q c (by omega), if_pos z, hc c hc']; exact x2 c hc'⟩
    · rw [h1, if_neg z] at e
      obtain ⟨x, x1, x2⟩ := a2 q (by omega) e
      exact ⟨x, x1, fun c hc' => by rw [g1 q c (by omega), if_neg z, hc c hc']; exact x2 c hc'⟩
  · have := ofN_rem (x := nI u) hr h1
    rw [if_neg (fun z => hut (ht.symm.trans z)), a3] at this
    omega
theorem RK.rem {f g : mm_F} {R r : Nat} (h : RK f R) (hr : r < R) (h1 : ∀ q, g 140 q = if q = r then f 140 (R - 1) else f 140 q) (h2 : ∀ j, g 141 j = if 4 * r ≤ j ∧ j < 4 * r + 4 then f 141 (4 * (R - 1) + (j - 4 * r)) else f 141 j) : RK g (R - 1) := by
  have g1 : ∀ q, g 141 (4 * q) = if q = r then f 141 (4 * (R - 1)) else f 141 (4 * q) := fun q => by
    rw [h2]
    by_cases z : q = r
    · rw [if_pos z, if_pos (by omega), show 4 * q - 4 * r = 0 by omega, Nat.add_zero]
    · rw [if_neg z, if_neg (by omega)]
  intro q p hq hp e1 e2
  rw [h1, h1] at e1
  rw [g1, g1] at e2
  by_cases z : q = r
  · by_cases y : p = r
    · omega
    · rw [if_pos z, if_neg y] at e1 e2
      have := h (R - 1) p (by omega) (by omega) e1 e2
      omega
  · by_cases y : p = r
    · rw [if_neg z, if_pos y] at e1 e2
      have := h q (R - 1) (by omega) (by omega) e1 e2
      omega
    · rw [if_neg z, if_neg y] at e1 e2
      exact h q p (by omega) (by omega) e1 e2
