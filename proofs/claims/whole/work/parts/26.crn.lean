/-! Contracts of a run's small methods. Step s: object 56 + 2 s, its kept cells at 57 + 2 s; the run at n, its row at n + 1. -/
/-- the first k cells of a laid into b -/
def cpC (f : mm_F) (a b k : Nat) : mm_F := fun x j => if x = b ∧ j < k then f a j else f x j
def hlF (x r v : Int32) : Bool :=
  if r = 0 then decide (x < v) else if r = 1 then decide (x ≤ v) else if r = 2 then decide (x = v) else if r = 3 then !decide (x = v) else if r = 4 then decide (v ≤ x) else if r = 5 then decide (v < x) else false
def sgF (f : mm_F) (s : Nat) : mm_F × Int32 := if f (56 + 2 * s) 7 = 0 then (f, 1) else (mm_up f (56 + 2 * s) 7 (f (56 + 2 * s) 7 - 1), 0)
def wgF (f : mm_F) (n s : Nat) : mm_F := mm_up (mm_up f (n + 1) 0 (f (57 + 2 * s) 0)) (n + 1) 1 (f (56 + 2 * s) 7)
def agF (f : mm_F) (n s : Nat) (x : Int32) : mm_F × Int32 :=
  if f (56 + 2 * s) 7 = 0 ∨ f (57 + 2 * s) 0 = x then (mm_up (mm_up f (57 + 2 * s) 0 x) (56 + 2 * s) 7 (f (56 + 2 * s) 7 + 1), 0)
  else (mm_up (mm_up (wgF f n s) (57 + 2 * s) 0 x) (56 + 2 * s) 7 1, 1)
def weF (f : mm_F) (n s : Nat) : mm_F × Int32 :=
  if f (56 + 2 * s) 0 = 8 ∨ f (56 + 2 * s) 0 = 9 then (mm_up (mm_up f (56 + 2 * s) 8 1) (n + 1) 0 (f (56 + 2 * s) 7), 1)
  else if f (56 + 2 * s) 0 = 10 then (if f (56 + 2 * s) 7 = 0 then (mm_up f (56 + 2 * s) 8 1, 2) else (wgF (mm_up f (56 + 2 * s) 8 1) n s, 1))
  else (f, 2)
section CRN
variable {E : mm_E} {w : mm_W} {f : mm_F} {n s : Nat}
theorem c_RN_wordOf {p k : Nat} (hw : mm_sh w) (hr : mm_run w n) (hs : s < 39) (hp : f (56 + 2 * s) 1 = nI p) (hk : p + k < 40) :
    mm_C E y_RN_wordOf b_RN_wordOf 3 (some .int) 0 0 0 [mm_rf E n, mm_rf E (56 + 2 * s), .int (nI k)] w f (mm_P (some (.int (f 54 (p + k)))) w f) := by
  refine mm_start (by decide) rfl (Nat.le_of_ble_eq_true rfl) fun Γ h he => ?_
  refine s_RN_wordOf_0 h he (Nat.le_refl _) (Nat.le_refl _) hw hr hs ?_ ?_
  · rw [hp, nI_add]; exact mm_inI hk (by omega)
  · rw [hp, nI_add, nI_clamp (by omega)]; exact mm_Pr
theorem c_RN_cellOf {p k c : Nat} (hw : mm_sh w) (hr : mm_run w n) (hs : s < 39) (hp : f (56 + 2 * s) 1 = nI p) (hk : p + k < 40) (hc : f 54 (p + k) = nI c) (hc2 : c < 8) :
    mm_C E y_RN_cellOf b_RN_cellOf 3 (some .int) 1 0 0 [mm_rf E n, mm_rf E (56 + 2 * s), .int (nI k)] w f (mm_P (some (.int (f (n + 1) c))) w f) := by
  refine mm_start (by decide) rfl (Nat.le_of_ble_eq_true rfl) fun Γ h he => ?_
  refine s_RN_cellOf_0 (vl0 := 0) (vc0 := 0) (vs0 := 0) h hw hr hs (by omega) (by omega) (by omega) (c_RN_wordOf hw hr hs hp hk) ?_
  rintro _ _ _ ⟨rfl, rfl, rfl⟩
  rw [hc]
  refine s_RN_cellOf_10 h he (Nat.le_refl _) (Nat.le_refl _) hw hr hs hr (mm_inI hc2 (by omega)) ?_
  rw [nI_clamp (by omega)]
  exact mm_Pr
theorem c_RN_copyCells {a b la lb k : Nat} (hw : mm_sh w) (ha : mm_ar w a 100 la) (hb : mm_ar w b 100 lb) (hne : a ≠ b) (h1 : k ≤ la) (h2 : k ≤ lb) (h3 : la ≤ 1000) (h4 : lb ≤ 1000) :
    mm_C E y_RN_copyCells b_RN_copyCells 4 none 0 0 0 [mm_rf E a, mm_rf E b, .int (nI k)] w f (mm_P none w (cpC f a b k)) := by
  refine mm_start (by decide) rfl (Nat.le_of_ble_eq_true rfl) fun Γ h he => ?_
  have loop : ∀ d j, j + d = k → mm_go E Γ 4 2 [(0, mm_rf E a), (1, mm_rf E b), (2, .int (nI k)), (3, .int (nI j))] [] w (cpC f a b j) 0 0 := by
    intro d
    induction d with
    | zero =>
      intro j hj
      have hj' : j = k := by omega
      subst hj'
      refine s_RN_copyCells_2 h he (Nat.le_refl _) (Nat.le_refl _) hw ha hb (fun _ => mm_Pr) (fun q => ?_) (fun q => ?_) (fun q => ?_)
      all_goals exact absurd (Int32.le_refl _) q
    | succ d ih =>
      intro j hj
      have ej := nI_clamp (n := j) (by omega)
      refine s_RN_copyCells_2 h he (Nat.le_refl _) (Nat.le_refl _) hw ha hb (fun q => ?_) (fun q => mm_inI (by omega) (by omega)) (fun q => mm_inI (by omega) (by omega)) (fun q => ?_)
      · rw [nI_leI (by omega) (by omega)] at q; omega
      · rw [nI_1, ej]
        have : mm_up (cpC f a b j) b j (cpC f a b j a j) = cpC f a b (j + 1) := by
          funext x i
          unfold mm_up cpC
          by_cases g1 : x = b ∧ i = j
          · obtain ⟨rfl, rfl⟩ := g1
            rw [if_pos ⟨rfl, rfl⟩, if_neg (by omega), if_pos (by omega)]
          · rw [if_neg g1]
            by_cases g2 : x = b ∧ i < j
            · rw [if_pos g2, if_pos (by omega)]
            · rw [if_neg g2, if_neg (by omega)]
        rw [this]
        exact ih (j + 1) (by omega)
  have h0 := loop k 0 (by omega)
  have : cpC f a b 0 = f := by
    funext x i
    unfold cpC
    rw [if_neg (by omega)]
  rw [this] at h0
  exact s_RN_copyCells_0 h hw ha hb h0
theorem c_RN_holds {x r v : Int32} (hw : mm_sh w) : mm_C E y_RN_holds b_RN_holds 3 (some .boolean) 0 0 0 [.int x, .int r, .int v] w f (mm_P (some (.int (bI (hlF x r v)))) w f) := by
  refine mm_start (by decide) rfl (Nat.le_of_ble_eq_true rfl) fun Γ h he => ?_
  have hh : hlF x r v = (if r = 0 then decide (x < v) else if r = 1 then decide (x ≤ v) else if r = 2 then decide (x = v) else if r = 3 then !decide (x = v) else if r = 4 then decide (v ≤ x) else if r = 5 then decide (v < x) else false) := rfl
  refine s_RN_holds_0 h hw (fun c0 => ?_) (fun c0 c1 => ?_) (fun c0 c1 c2 => ?_) (fun c0 c1 c2 c3 => ?_) (fun c0 c1 c2 c3 c4 => ?_) (fun c0 c1 c2 c3 c4 c5 => ?_) (fun c0 c1 c2 c3 c4 c5 => ?_)
  · rw [if_pos c0] at hh
    refine s_RN_holds_40 h hw (fun q => ?_) (fun q => ?_)
    · refine s_RN_holds_50 h he (Nat.le_refl _) (Nat.le_refl _) hw ?_ rfl
      rw [hh, decide_eq_false (Int32.not_lt.mpr q)]; exact mm_Pr
    · refine s_RN_holds_50 h he (Nat.le_refl _) (Nat.le_refl _) hw ?_ rfl
      rw [hh, decide_eq_true (Int32.not_le.mp q)]; exact mm_Pr
  · rw [if_neg c0, if_pos c1] at hh
    refine s_RN_holds_51 h hw (fun q => ?_) (fun q => ?_)
    · refine s_RN_holds_61 h he (Nat.le_refl _) (Nat.le_refl _) hw ?_ rfl
      rw [hh, decide_eq_false (Int32.not_le.mpr q)]; exact mm_Pr
    · refine s_RN_holds_61 h he (Nat.le_refl _) (Nat.le_refl _) hw ?_ rfl
      rw [hh, decide_eq_true (Int32.not_lt.mp q)]; exact mm_Pr
  · rw [if_neg c0, if_neg c1, if_pos c2] at hh
    refine s_RN_holds_62 h hw (fun q => ?_) (fun q => ?_)
    · refine s_RN_holds_72 h he (Nat.le_refl _) (Nat.le_refl _) hw ?_ rfl
      rw [hh, decide_eq_false q]; exact mm_Pr
    · refine s_RN_holds_72 h he (Nat.le_refl _) (Nat.le_refl _) hw ?_ rfl
      rw [hh, decide_eq_true q]; exact mm_Pr
  · rw [if_neg c0, if_neg c1, if_neg c2, if_pos c3] at hh
    refine s_RN_holds_73 h hw (fun q => ?_) (fun q => ?_)
    · refine s_RN_holds_83 h he (Nat.le_refl _) (Nat.le_refl _) hw ?_ rfl
      rw [hh, decide_eq_true q]; exact mm_Pr
    · refine s_RN_holds_83 h he (Nat.le_refl _) (Nat.le_refl _) hw ?_ rfl
      rw [hh, decide_eq_false q]; exact mm_Pr
  · rw [if_neg c0, if_neg c1, if_neg c2, if_neg c3, if_pos c4] at hh
    refine s_RN_holds_84 h hw (fun q => ?_) (fun q => ?_)
    · refine s_RN_holds_94 h he (Nat.le_refl _) (Nat.le_refl _) hw ?_ rfl
      rw [hh, decide_eq_false (Int32.not_le.mpr q)]; exact mm_Pr
    · refine s_RN_holds_94 h he (Nat.le_refl _) (Nat.le_refl _) hw ?_ rfl
      rw [hh, decide_eq_true (Int32.not_lt.mp q)]; exact mm_Pr
  · rw [if_neg c0, if_neg c1, if_neg c2, if_neg c3, if_neg c4, if_pos c5] at hh
    refine s_RN_holds_95 h hw (fun q => ?_) (fun q => ?_)
    · refine s_RN_holds_105 h he (Nat.le_refl _) (Nat.le_refl _) hw ?_ rfl
      rw [hh, decide_eq_false (Int32.not_lt.mpr q)]; exact mm_Pr
    · refine s_RN_holds_105 h he (Nat.le_refl _) (Nat.le_refl _) hw ?_ rfl
      rw [hh, decide_eq_true (Int32.not_le.mp q)]; exact mm_Pr
  · rw [if_neg c0, if_neg c1, if_neg c2, if_neg c3, if_neg c4, if_neg c5] at hh
    refine s_RN_holds_106 h he (Nat.le_refl _) (Nat.le_refl _) hw ?_
    rw [hh]; exact mm_Pr
theorem c_RN_skipOrGive (hw : mm_sh w) (hr : mm_run w n) (hs : s < 39) : mm_C E y_RN_skipOrGive b_RN_skipOrGive 2 (some .int) 0 0 0 [mm_rf E n, mm_rf E (56 + 2 * s)] w f (mm_P (some (.int (sgF f s).2)) w (sgF f s).1) := by
  refine mm_start (by decide) rfl (Nat.le_of_ble_eq_true rfl) fun Γ h he => ?_
  refine s_RN_skipOrGive_0 h he (Nat.le_refl _) (Nat.le_refl _) hw hr hs (fun q => ?_) (fun q => ?_)
  · unfold sgF; rw [if_neg q]; exact mm_Pr
  · unfold sgF; rw [if_pos q]; exact mm_Pr
theorem c_RN_writeGroup (hw : mm_sh w) (hr : mm_run w n) (hs : s < 39) : mm_C E y_RN_writeGroup b_RN_writeGroup 2 none 0 0 0 [mm_rf E n, mm_rf E (56 + 2 * s)] w f (mm_P none w (wgF f n s)) := by
  refine mm_start (by decide) rfl (Nat.le_of_ble_eq_true rfl) fun Γ h he => ?_
  have hN : 153 ≤ n := hr.1
  refine s_RN_writeGroup_0 h he (Nat.le_refl _) (Nat.le_refl _) hw hr hs ?_
  rw [mm_up_ne (c := 56 + 2 * s) (k := 7) _ _ (by omega)]
  exact mm_Pr
theorem c_RN_addToGroup {x : Int32} (hw : mm_sh w) (hr : mm_run w n) (hs : s < 39) : mm_C E y_RN_addToGroup b_RN_addToGroup 3 (some .int) 1 0 0 [mm_rf E n, mm_rf E (56 + 2 * s), .int x] w f (mm_P (some (.int (agF f n s x).2)) w (agF f n s x).1) := by
  refine mm_start (by decide) rfl (Nat.le_of_ble_eq_true rfl) fun Γ h he => ?_
  have hN : 153 ≤ n := hr.1
  have z17 : (f (56 + 2 * s) 7 = 0 ∨ f (57 + 2 * s) 0 = x) → mm_go E Γ 3 17 [(0, mm_rf E n), (1, mm_rf E (56 + 2 * s)), (2, .int x)] [] w f 0 0 := fun q => by
    refine s_RN_addToGroup_17 h he (Nat.le_refl _) (Nat.le_refl _) hw hr hs ?_
    unfold agF
    rw [if_pos q, mm_up_ne (c := 56 + 2 * s) (k := 7) _ _ (by omega)]
    exact mm_Pr
  refine s_RN_addToGroup_0 (vl0 := 0) (vc0 := 0) (vs0 := 0) h hw hr hs (fun q => z17 (Or.inl q)) (by omega) (by omega) (by omega) (fun _ _ => c_RN_writeGroup hw hr hs) (fun q1 q2 => ?_) (fun _ q => z17 (Or.inr q))
  rintro _ _ _ ⟨rfl, rfl, rfl⟩
  refine s_RN_addToGroup_41 h he (Nat.le_refl _) (Nat.le_refl _) hw hr hs ?_
  unfold agF
  rw [if_neg (fun z => z.elim q1 q2)]
  exact mm_Pr
theorem c_RN_whenEnded (hw : mm_sh w) (hr : mm_run w n) (hs : s < 39) : mm_C E y_RN_whenEnded b_RN_whenEnded 2 (some .int) 1 0 0 [mm_rf E n, mm_rf E (56 + 2 * s)] w f (mm_P (some (.int (weF f n s).2)) w (weF f n s).1) := by
  refine mm_start (by decide) rfl (Nat.le_of_ble_eq_true rfl) fun Γ h he => ?_
  have hN : 153 ≤ n := hr.1
  have z32 : (f (56 + 2 * s) 0 = 8 ∨ f (56 + 2 * s) 0 = 9) → mm_go E Γ 2 32 [(0, mm_rf E n), (1, mm_rf E (56 + 2 * s))] [] w f 0 0 := fun q => by
    refine s_RN_whenEnded_32 h he (Nat.le_refl _) (Nat.le_refl _) hw hr hs ?_
    unfold weF
    rw [if_pos q, mm_up_ne (c := 56 + 2 * s) (k := 7) _ _ (by omega)]
    exact mm_Pr
  refine s_RN_whenEnded_0 h hw hr hs (fun c1 => z32 (Or.inl c1)) (fun _ c2 => z32 (Or.inr c2)) (fun c1 c2 c3 => ?_) (fun c1 c2 c3 => ?_)
  · have e7 : (mm_up f (56 + 2 * s) 8 1) (56 + 2 * s) 7 = f (56 + 2 * s) 7 := mm_up_ne _ _ (by omega)
    have hx : weF f n s = (if f (56 + 2 * s) 7 = 0 then (mm_up f (56 + 2 * s) 8 1, 2) else (wgF (mm_up f (56 + 2 * s) 8 1) n s, 1)) := by
      unfold weF
      rw [if_neg (fun z => z.elim c1 c2), if_pos c3]
    refine s_RN_whenEnded_49 (vl0 := 0) (vc0 := 0) (vs0 := 0) h he (Nat.le_refl _) (Nat.le_refl _) hw hr hs (by omega) (by omega) (by omega) (fun _ => c_RN_writeGroup hw hr hs) (fun q => ?_) (fun q => ?_)
    · rintro _ _ _ ⟨rfl, rfl, rfl⟩
      refine s_RN_whenEnded_68 h he (Nat.le_refl _) (Nat.le_refl _) hw hr hs ?_
      rw [e7] at q
      rw [hx, if_neg q]
      exact mm_Pr
    · rw [e7] at q
      rw [hx, if_pos q]
      exact mm_Pr
  · refine s_RN_whenEnded_70 h he (Nat.le_refl _) (Nat.le_refl _) hw hr hs ?_
    unfold weF
    rw [if_neg (fun z => z.elim c1 c2), if_neg c3]
    exact mm_Pr
/-- a step's walk begins: at the first place whose cell isn't below -/
def bwF (f : mm_F) (s t c m : Nat) (low high : Int32) : mm_F := mm_up (mm_up f (56 + 2 * s) 5 (nI (tb_below f t c m low))) (56 + 2 * s) 6 high
theorem c_RN_beginWalk {t c m : Nat} {low high : Int32} (hw : mm_sh w) (hr : mm_run w n) (hs : s < 39) (ht : t < 4) (hc : c < 4) (h3 : f (56 + 2 * s) 3 = nI t) (h4 : f (56 + 2 * s) 4 = nI c) (hm : f (4 + 12 * t) 1 = nI m) (hm2 : m ≤ 48) (hu : tb_up f t c m) :
    mm_C E y_RN_beginWalk b_RN_beginWalk 4 none 2 0 0 [mm_rf E n, mm_rf E (56 + 2 * s), .int low, .int high] w f (mm_P none w (bwF f s t c m low high)) := by
  refine mm_start (by decide) rfl (Nat.le_of_ble_eq_true rfl) fun Γ h he => ?_
  have et := nI_clamp (n := t) (by omega)
  refine s_RN_beginWalk_0 (vl0 := 1) (vc0 := 0) (vs0 := 0) h hw hr hs (by rw [h3]; exact mm_inI ht (by omega)) (by omega) (by omega) (by omega) (by rw [h3, h4, et]; exact c_TB_placeFrom hw ht hc hm hm2 hu) ?_
  rintro _ _ _ ⟨rfl, rfl, rfl⟩
  exact s_RN_beginWalk_21 h he (Nat.le_refl _) (Nat.le_refl _) hw hr hs hs mm_Pr
/-- a step's walk takes the row in slot q -/
def wkF (f : mm_F) (n s t cols wb q : Nat) : mm_F := mm_up (cpR (cpC (mm_up f n 4 (f n 4 + 1)) (57 + 2 * s) (n + 1) wb) t cols q (n + 1) wb) (56 + 2 * s) 5 (f (56 + 2 * s) 5 + 1)
theorem c_RN_walkOn {t c p m cols wb q : Nat} {e : Int32} (hw : mm_sh w) (hr : mm_run w n) (hs : s < 39) (ht : t < 4) (hc : c < 4) (h3 : f (56 + 2 * s) 3 = nI t) (h4 : f (56 + 2 * s) 4 = nI c) (h5 : f (56 + 2 * s) 5 = nI p) (hp : p ≤ m) (hm : f (4 + 12 * t) 1 = nI m) (hm2 : m ≤ 48) (hcl : f (4 + 12 * t) 0 = nI cols) (hcl2 : cols ≤ 4) (h2 : f (56 + 2 * s) 2 = nI wb) (hwb : wb + cols ≤ 8) (hq : p < m → to f t c p = nI q ∧ q < 48) :
    mm_C E y_RN_walkOn b_RN_walkOn 4 (some .int) 1 0 0 [mm_rf E n, mm_rf E (56 + 2 * s), .int e] w f
      (if p < m ∧ tc f t c q ≤ f (56 + 2 * s) 6 then (if f n 4 < f n 3 then mm_P (some (.int 1)) w (wkF f n s t cols wb q) else mm_P (some (.int 3)) w f) else mm_P (some (.int e)) w f) := by
  refine mm_start (by decide) rfl (Nat.le_of_ble_eq_true rfl) fun Γ h he => ?_
  have hN : 153 ≤ n := hr.1
  have et := nI_clamp (n := t) (by omega)
  have hn1 : mm_ar w (n + 1) 100 8 := hr.2.2.2.2.2.2
  have z43 : ¬ (p < m ∧ tc f t c q ≤ f (56 + 2 * s) 6) → mm_go E Γ 4 43 [(0, mm_rf E n), (1, mm_rf E (56 + 2 * s)), (2, .int e), (3, mm_rf E (4 + 12 * t))] [] w f 0 0 := fun z => by
    rw [if_neg z] at he
    exact s_RN_walkOn_43 h he (Nat.le_refl _) (Nat.le_refl _) hw hr hs ht mm_Pr
  by_cases hpm : p < m
  · obtain ⟨hq1, hq2⟩ := hq hpm
    refine s_RN_walkOn_0 (vl0 := 0) (vc0 := 0) (vs0 := 0) h hw hr hs (by rw [h3]; exact mm_inI ht (by omega)) (fun q1 => ?_) (by omega) (by omega) (by omega) (fun _ => by rw [h3, h4, h5, et]; exact c_TB_cellAt hw ht hc (by omega) hq1 hq2) (fun _ => ?_)
    · rw [h3, et, hm, h5, nI_leI (by omega) (by omega)] at q1; omega
    · rintro _ _ _ ⟨rfl, rfl, rfl⟩
      rw [h3, et]
      have e2 : (mm_up f n 4 (f n 4 + 1)) (56 + 2 * s) 2 = nI wb := by rw [mm_up_ne _ _ (by omega)]; exact h2
      refine s_RN_walkOn_36 (vl0 := 0) (vc0 := 0) (vs0 := 0) h he (Nat.le_refl _) (Nat.le_refl _) hw hr hs ht (by omega) (by omega) (by omega) (fun _ _ => by rw [e2]; exact c_RN_copyCells hw (is_SK hw hs) hn1 (by omega) (by omega) (by omega) (by omega) (by omega)) (fun q1 q2 => ?_) (fun q1 q2 => ?_) (fun q1 => z43 (fun z => q1 z.2))
      · rintro _ _ _ ⟨rfl, rfl, rfl⟩
        rw [if_pos ⟨hpm, q1⟩, if_pos q2] at he
        have fr : ∀ a j, a ≠ n → a ≠ n + 1 → cpC (mm_up f n 4 (f n 4 + 1)) (57 + 2 * s) (n + 1) wb a j = f a j := fun a j h1 h2 => by
          unfold cpC
          rw [if_neg (by omega), mm_up_off _ _ h1]
        refine s_RN_walkOn_83 (vl0 := 0) (vc0 := 0) (vs0 := 0) h hw hr hs ht (by omega) (by omega) (by omega) (by rw [fr _ 4 (by omega) (by omega), fr _ 5 (by omega) (by omega), fr _ 2 (by omega) (by omega), h4, h5, h2]; exact c_TB_copyRow hw ht hc (by omega) (by rw [fr _ 0 (by omega) (by omega)]; exact hcl) hcl2 (by show cpC _ _ _ _ (12 + 12 * t + c) p = _; rw [fr _ p (by omega) (by omega)]; exact hq1) hq2 hr hwb) ?_
        rintro _ _ _ ⟨rfl, rfl, rfl⟩
        refine s_RN_walkOn_103 h he (Nat.le_refl _) (Nat.le_refl _) hw hr hs ht ?_
        have e5 : cpR (cpC (mm_up f n 4 (f n 4 + 1)) (57 + 2 * s) (n + 1) wb) t cols q (n + 1) wb (56 + 2 * s) 5 = f (56 + 2 * s) 5 := by
          unfold cpR
          rw [if_neg (by omega), fr _ 5 (by omega) (by omega)]
        rw [e5]
        exact mm_Pr
      · rw [if_pos ⟨hpm, q1⟩, if_neg q2]
        exact mm_Pr
  · refine s_RN_walkOn_0 (vl0 := 0) (vc0 := 0) (vs0 := 0) (P0 := fun _ _ _ => False) h hw hr hs (by rw [h3]; exact mm_inI ht (by omega)) (fun _ => ?_) (by omega) (by omega) (by omega) (fun q1 => ?_) (fun q1 => ?_)
    · rw [h3, et]
      exact z43 (fun z => hpm z.1)
    · rw [h3, et, hm, h5, nI_leI (by omega) (by omega)] at q1; omega
    · rw [h3, et, hm, h5, nI_leI (by omega) (by omega)] at q1; omega
/-- the picked cells: cell i is the row's cell that word p + 2 + i names -/
def pcF (f : mm_F) (n s p k : Nat) : mm_F := fun a j => if a = 57 + 2 * s ∧ j < k then f (n + 1) (f 54 (p + 2 + j)).toNatClampNeg else f a j
def piF (f : mm_F) (n s p k : Nat) : mm_F := cpC (pcF f n s p k) (57 + 2 * s) (n + 1) k
theorem c_RN_pick {p k : Nat} (hw : mm_sh w) (hr : mm_run w n) (hs : s < 39) (hp : f (56 + 2 * s) 1 = nI p) (hk : f 54 (p + 1) = nI k) (hk2 : k ≤ 8) (hpk : p + 1 + k < 40) (hc : ∀ i, i < k → ∃ c, c < 8 ∧ f 54 (p + 2 + i) = nI c) :
    mm_C E y_RN_pick b_RN_pick 4 none 2 0 0 [mm_rf E n, mm_rf E (56 + 2 * s)] w f (mm_P none w (piF f n s p k)) := by
  refine mm_start (by decide) rfl (Nat.le_of_ble_eq_true rfl) fun Γ h he => ?_
  have hN : 153 ≤ n := hr.1
  have hn1 : mm_ar w (n + 1) 100 8 := hr.2.2.2.2.2.2
  have h1 : (1 : Int32) = nI 1 := rfl
  have h2 : (2 : Int32) = nI 2 := rfl
  refine s_RN_pick_0 (vl0 := 0) (vc0 := 0) (vs0 := 0) h hw hr hs (by omega) (by omega) (by omega) (by rw [h1]; exact c_RN_wordOf hw hr hs hp (by omega)) ?_
  rintro _ _ _ ⟨rfl, rfl, rfl⟩
  rw [hk]
  refine s_RN_pick_6 h hw hr hs ?_
  have fr : ∀ i a j, a ≠ 57 + 2 * s → pcF f n s p i a j = f a j := fun i a j ha => by
    unfold pcF
    rw [if_neg (by omega)]
  have loop : ∀ d i, i + d = k → mm_go E Γ 4 9 [(0, mm_rf E n), (1, mm_rf E (56 + 2 * s)), (2, .int (nI k)), (3, .int (nI i))] [] w (pcF f n s p i) 0 0 := by
    intro d
    induction d with
    | zero =>
      intro i hi
      have hi' : i = k := by omega
      subst hi'
      refine s_RN_pick_9 (vl0 := 0) (vc0 := 0) (vs0 := 0) (vl1 := 0) (vc1 := 0) (vs1 := 0) (P1 := fun _ _ _ => False) h hw hr hs (by omega) (by omega) (by omega) (fun _ => c_RN_copyCells hw (is_SK hw hs) hn1 (by omega) (by omega) (by omega) (by omega) (by omega)) (fun _ => ?_) (by omega) (by omega) (by omega) (fun q => absurd (Int32.le_refl _) q) (fun q => absurd (Int32.le_refl _) q)
      rintro _ _ _ ⟨rfl, rfl, rfl⟩
      exact s_RN_pick_46 h he (Nat.le_refl _) (Nat.le_refl _) hw hr hs mm_Pr
    | succ d ih =>
      intro i hi
      obtain ⟨c, hc1, hc2⟩ := hc i (by omega)
      have ei := nI_clamp (n := i) (by omega)
      have ew : pcF f n s p i 54 (p + (2 + i)) = nI c := by rw [fr i 54 _ (by omega), ← Nat.add_assoc]; exact hc2
      refine s_RN_pick_9 (vl0 := 0) (vc0 := 0) (vs0 := 0) (P0 := fun _ _ _ => False) (vl1 := 1) (vc1 := 0) (vs1 := 0) h hw hr hs (by omega) (by omega) (by omega) (fun q => ?_) (fun q => ?_) (by omega) (by omega) (by omega) (fun _ => by rw [h2, nI_add]; exact c_RN_cellOf (c := c) hw hr hs (by rw [fr i _ 1 (by omega)]; exact hp) (by omega) ew hc1) (fun _ => ?_)
      · rw [nI_leI (by omega) (by omega)] at q; omega
      · rw [nI_leI (by omega) (by omega)] at q; omega
      · rintro _ _ _ ⟨rfl, rfl, rfl⟩
        refine s_RN_pick_27 h hw hr hs hs (mm_inI (by omega) (by omega)) ?_
        rw [nI_1, ei]
        have : mm_up (pcF f n s p i) (57 + 2 * s) i (pcF f n s p i (n + 1) c) = pcF f n s p (i + 1) := by
          rw [fr i (n + 1) c (by omega)]
          funext a j
          unfold mm_up pcF
          by_cases g1 : a = 57 + 2 * s ∧ j = i
          · obtain ⟨rfl, rfl⟩ := g1
            rw [if_pos ⟨rfl, rfl⟩, if_pos (by omega), hc2, nI_clamp (by omega)]
          · rw [if_neg g1]
            by_cases g2 : a = 57 + 2 * s ∧ j < i
            · rw [if_pos g2, if_pos (by omega)]
            · rw [if_neg g2, if_neg (by omega)]
        rw [this]
        exact ih (i + 1) (by omega)
  have h0 := loop k 0 (by omega)
  have : pcF f n s p 0 = f := by
    funext a j
    unfold pcF
    rw [if_neg (by omega)]
  rw [this] at h0
  exact h0
end CRN
