/-! The shape of the memory behind the constructors: every number below 153 has its kind, its length, its references. -/
def sh_kl : List Nat := [0, 0, 1, 104, 2, 101, 103, 100, 100, 100, 100, 103, 100, 100, 100, 100, 2, 101, 103, 100, 100, 100, 100, 103, 100, 100, 100, 100, 2, 101, 103, 100, 100, 100, 100, 103, 100, 100, 100, 100, 2, 101, 103, 100, 100, 100, 100, 103, 100, 100, 100, 100, 100, 3, 100, 105, 4, 100, 4, 100, 4, 100, 4, 100, 4, 100, 4, 100, 4, 100, 4, 100, 4, 100, 4, 100, 4, 100, 4, 100, 4, 100, 4, 100, 4, 100, 4, 100, 4, 100, 4, 100, 4, 100, 4, 100, 4, 100, 4, 100, 4, 100, 4, 100, 4, 100, 4, 100, 4, 100, 4, 100, 4, 100, 4, 100, 4, 100, 4, 100, 4, 100, 4, 100, 4, 100, 4, 100, 4, 100, 4, 100, 4, 100, 5, 100, 7, 100, 101, 100, 100, 100, 100, 100, 100, 100, 100, 100, 100, 101, 100, 100, 102]
def sh_ll : List Nat := [0, 0, 0, 4, 0, 4, 4, 48, 48, 48, 48, 4, 48, 48, 48, 48, 0, 4, 4, 48, 48, 48, 48, 4, 48, 48, 48, 48, 0, 4, 4, 48, 48, 48, 48, 4, 48, 48, 48, 48, 0, 4, 4, 48, 48, 48, 48, 4, 48, 48, 48, 48, 4, 0, 40, 39, 0, 8, 0, 8, 0, 8, 0, 8, 0, 8, 0, 8, 0, 8, 0, 8, 0, 8, 0, 8, 0, 8, 0, 8, 0, 8, 0, 8, 0, 8, 0, 8, 0, 8, 0, 8, 0, 8, 0, 8, 0, 8, 0, 8, 0, 8, 0, 8, 0, 8, 0, 8, 0, 8, 0, 8, 0, 8, 0, 8, 0, 8, 0, 8, 0, 8, 0, 8, 0, 8, 0, 8, 0, 8, 0, 8, 0, 8, 0, 64, 0, 4, 16, 4, 48, 192, 40, 40, 40, 40, 8, 40, 40, 40, 320, 64, 1]
def sh_rl : List (List Nat) := [[], [2, 52, 53, 134, 0], [3, 0], [4, 16, 28, 40], [0, 0, 5, 6, 11], [], [7, 8, 9, 10], [], [], [], [], [12, 13, 14, 15], [], [], [], [], [0, 0, 17, 18, 23], [], [19, 20, 21, 22], [], [], [], [], [24, 25, 26, 27], [], [], [], [], [0, 0, 29, 30, 35], [], [31, 32, 33, 34], [], [], [], [], [36, 37, 38, 39], [], [], [], [], [0, 0, 41, 42, 47], [], [43, 44, 45, 46], [], [], [], [], [48, 49, 50, 51], [], [], [], [], [], [54, 0, 0, 0, 0, 55, 0], [], [56, 58, 60, 62, 64, 66, 68, 70, 72, 74, 76, 78, 80, 82, 84, 86, 88, 90, 92, 94, 96, 98, 100, 102, 104, 106, 108, 110, 112, 114, 116, 118, 120, 122, 124, 126, 128, 130, 132], [0, 0, 0, 0, 0, 0, 0, 0, 0, 57], [], [0, 0, 0, 0, 0, 0, 0, 0, 0, 59], [], [0, 0, 0, 0, 0, 0, 0, 0, 0, 61], [], [0, 0, 0, 0, 0, 0, 0, 0, 0, 63], [], [0, 0, 0, 0, 0, 0, 0, 0, 0, 65], [], [0, 0, 0, 0, 0, 0, 0, 0, 0, 67], [], [0, 0, 0, 0, 0, 0, 0, 0, 0, 69], [], [0, 0, 0, 0, 0, 0, 0, 0, 0, 71], [], [0, 0, 0, 0, 0, 0, 0, 0, 0, 73], [], [0, 0, 0, 0, 0, 0, 0, 0, 0, 75], [], [0, 0, 0, 0, 0, 0, 0, 0, 0, 77], [], [0, 0, 0, 0, 0, 0, 0, 0, 0, 79], [], [0, 0, 0, 0, 0, 0, 0, 0, 0, 81], [], [0, 0, 0, 0, 0, 0, 0, 0, 0, 83], [], [0, 0, 0, 0, 0, 0, 0, 0, 0, 85], [], [0, 0, 0, 0, 0, 0, 0, 0, 0, 87], [], [0, 0, 0, 0, 0, 0, 0, 0, 0, 89], [], [0, 0, 0, 0, 0, 0, 0, 0, 0, 91], [], [0, 0, 0, 0, 0, 0, 0, 0, 0, 93], [], [0, 0, 0, 0, 0, 0, 0, 0, 0, 95], [], [0, 0, 0, 0, 0, 0, 0, 0, 0, 97], [], [0, 0, 0, 0, 0, 0, 0, 0, 0, 99], [], [0, 0, 0, 0, 0, 0, 0, 0, 0, 101], [], [0, 0, 0, 0, 0, 0, 0, 0, 0, 103], [], [0, 0, 0, 0, 0, 0, 0, 0, 0, 105], [], [0, 0, 0, 0, 0, 0, 0, 0, 0, 107], [], [0, 0, 0, 0, 0, 0, 0, 0, 0, 109], [], [0, 0, 0, 0, 0, 0, 0, 0, 0, 111], [], [0, 0, 0, 0, 0, 0, 0, 0, 0, 113], [], [0, 0, 0, 0, 0, 0, 0, 0, 0, 115], [], [0, 0, 0, 0, 0, 0, 0, 0, 0, 117], [], [0, 0, 0, 0, 0, 0, 0, 0, 0, 119], [], [0, 0, 0, 0, 0, 0, 0, 0, 0, 121], [], [0, 0, 0, 0, 0, 0, 0, 0, 0, 123], [], [0, 0, 0, 0, 0, 0, 0, 0, 0, 125], [], [0, 0, 0, 0, 0, 0, 0, 0, 0, 127], [], [0, 0, 0, 0, 0, 0, 0, 0, 0, 129], [], [0, 0, 0, 0, 0, 0, 0, 0, 0, 131], [], [0, 0, 0, 0, 0, 0, 0, 0, 0, 133], [], [135, 0, 0], [], [0, 0, 137, 138, 139, 0, 140, 141, 0, 142, 0, 0, 143, 144, 145, 0, 0, 0, 0, 0, 0, 146, 147, 148, 149, 150, 0, 0, 0, 0, 0, 151], [], [], [], [], [], [], [], [], [], [], [], [], [], [], [], []]
def sh_k (a : Nat) : Nat := (sh_kl[a]?).getD 0
def sh_l (a : Nat) : Nat := (sh_ll[a]?).getD 0
def sh_r (a j : Nat) : Nat := (((sh_rl[a]?).getD [])[j]?).getD 0
def mm_sh (w : mm_W) : Prop := 153 ≤ mm_n w ∧ ∀ a, 0 < a → a < 153 → mm_k w a = sh_k a ∧ mm_l w a = sh_l a ∧ ∀ j, mm_r w a j = sh_r a j
theorem sh_o {w : mm_W} (hw : mm_sh w) {a k : Nat} (h0 : 0 < a) (ha : a < 153) (hk : sh_k a = k) : mm_is w a k := ⟨h0, Nat.lt_of_lt_of_le ha hw.1, by rw [(hw.2 a h0 ha).1]; exact hk⟩
theorem sh_a {w : mm_W} (hw : mm_sh w) {a k l : Nat} (h0 : 0 < a) (ha : a < 153) (hk : sh_k a = k) (hl : sh_l a = l) : mm_ar w a k l := ⟨sh_o hw h0 ha hk, by rw [(hw.2 a h0 ha).2.1]; exact hl⟩
theorem sh_q {w : mm_W} (hw : mm_sh w) {a j r : Nat} (h0 : 0 < a) (ha : a < 153) (hr : sh_r a j = r) : mm_r w a j = r := by rw [(hw.2 a h0 ha).2.2 j]; exact hr
/-- a Run object at n, its row at n + 1 -/
def mm_run (w : mm_W) (n : Nat) : Prop := 153 ≤ n ∧ mm_is w n 6 ∧ mm_r w n 0 = 2 ∧ mm_r w n 1 = 53 ∧ mm_r w n 2 = 134 ∧ mm_r w n 5 = n + 1 ∧ mm_ar w (n + 1) 100 8
theorem is_PT {w : mm_W} (hw : mm_sh w) : mm_is w 1 0 := sh_o hw (by decide) (by decide) rfl
theorem is_TS {w : mm_W} (hw : mm_sh w) : mm_is w 2 1 := sh_o hw (by decide) (by decide) rfl
theorem is_TA {w : mm_W} (hw : mm_sh w) : mm_ar w 3 104 4 := sh_a hw (by decide) (by decide) rfl rfl
theorem is_T {w : mm_W} {t : Nat} (hw : mm_sh w) (ht : t < 4) : mm_is w (4 + 12 * t) 2 := sh_o hw (by omega) (by omega) ((by decide +kernel : ∀ t, t < 4 → sh_k (4 + 12 * t) = 2) t ht)
theorem is_TI {w : mm_W} {t : Nat} (hw : mm_sh w) (ht : t < 4) : mm_ar w (5 + 12 * t) 101 4 := sh_a hw (by omega) (by omega) ((by decide +kernel : ∀ t, t < 4 → sh_k (5 + 12 * t) = 101) t ht) ((by decide +kernel : ∀ t, t < 4 → sh_l (5 + 12 * t) = 4) t ht)
theorem is_TC {w : mm_W} {t : Nat} (hw : mm_sh w) (ht : t < 4) : mm_ar w (6 + 12 * t) 103 4 := sh_a hw (by omega) (by omega) ((by decide +kernel : ∀ t, t < 4 → sh_k (6 + 12 * t) = 103) t ht) ((by decide +kernel : ∀ t, t < 4 → sh_l (6 + 12 * t) = 4) t ht)
theorem is_TK {w : mm_W} {t : Nat} {c : Nat} (hw : mm_sh w) (ht : t < 4) (hc : c < 4) : mm_ar w (7 + 12 * t + c) 100 48 := sh_a hw (by omega) (by omega) ((by decide +kernel : ∀ t, t < 4 → ∀ c, c < 4 → sh_k (7 + 12 * t + c) = 100) t ht c hc) ((by decide +kernel : ∀ t, t < 4 → ∀ c, c < 4 → sh_l (7 + 12 * t + c) = 48) t ht c hc)
theorem is_TO {w : mm_W} {t : Nat} (hw : mm_sh w) (ht : t < 4) : mm_ar w (11 + 12 * t) 103 4 := sh_a hw (by omega) (by omega) ((by decide +kernel : ∀ t, t < 4 → sh_k (11 + 12 * t) = 103) t ht) ((by decide +kernel : ∀ t, t < 4 → sh_l (11 + 12 * t) = 4) t ht)
theorem is_TP {w : mm_W} {t : Nat} {c : Nat} (hw : mm_sh w) (ht : t < 4) (hc : c < 4) : mm_ar w (12 + 12 * t + c) 100 48 := sh_a hw (by omega) (by omega) ((by decide +kernel : ∀ t, t < 4 → ∀ c, c < 4 → sh_k (12 + 12 * t + c) = 100) t ht c hc) ((by decide +kernel : ∀ t, t < 4 → ∀ c, c < 4 → sh_l (12 + 12 * t + c) = 48) t ht c hc)
theorem is_ST {w : mm_W} (hw : mm_sh w) : mm_ar w 52 100 4 := sh_a hw (by decide) (by decide) rfl rfl
theorem is_PL {w : mm_W} (hw : mm_sh w) : mm_is w 53 3 := sh_o hw (by decide) (by decide) rfl
theorem is_WD {w : mm_W} (hw : mm_sh w) : mm_ar w 54 100 40 := sh_a hw (by decide) (by decide) rfl rfl
theorem is_SA {w : mm_W} (hw : mm_sh w) : mm_ar w 55 105 39 := sh_a hw (by decide) (by decide) rfl rfl
theorem is_S {w : mm_W} {s : Nat} (hw : mm_sh w) (hs : s < 39) : mm_is w (56 + 2 * s) 4 := sh_o hw (by omega) (by omega) ((by decide +kernel : ∀ s, s < 39 → sh_k (56 + 2 * s) = 4) s hs)
theorem is_SK {w : mm_W} {s : Nat} (hw : mm_sh w) (hs : s < 39) : mm_ar w (57 + 2 * s) 100 8 := sh_a hw (by omega) (by omega) ((by decide +kernel : ∀ s, s < 39 → sh_k (57 + 2 * s) = 100) s hs) ((by decide +kernel : ∀ s, s < 39 → sh_l (57 + 2 * s) = 8) s hs)
theorem is_OU {w : mm_W} (hw : mm_sh w) : mm_is w 134 5 := sh_o hw (by decide) (by decide) rfl
theorem is_OC {w : mm_W} (hw : mm_sh w) : mm_ar w 135 100 64 := sh_a hw (by decide) (by decide) rfl rfl
theorem is_MO {w : mm_W} (hw : mm_sh w) : mm_is w 136 7 := sh_o hw (by decide) (by decide) rfl
theorem is_OT {w : mm_W} (hw : mm_sh w) : mm_ar w 152 102 1 := sh_a hw (by decide) (by decide) rfl rfl
theorem is_Mcolumns {w : mm_W} (hw : mm_sh w) : mm_ar w 137 100 4 := sh_a hw (by decide) (by decide) rfl rfl
theorem is_Mindexed {w : mm_W} (hw : mm_sh w) : mm_ar w 138 101 16 := sh_a hw (by decide) (by decide) rfl rfl
theorem is_Mstaged {w : mm_W} (hw : mm_sh w) : mm_ar w 139 100 4 := sh_a hw (by decide) (by decide) rfl rfl
theorem is_Mof {w : mm_W} (hw : mm_sh w) : mm_ar w 140 100 48 := sh_a hw (by decide) (by decide) rfl rfl
theorem is_Mcells {w : mm_W} (hw : mm_sh w) : mm_ar w 141 100 192 := sh_a hw (by decide) (by decide) rfl rfl
theorem is_Mplan {w : mm_W} (hw : mm_sh w) : mm_ar w 142 100 40 := sh_a hw (by decide) (by decide) rfl rfl
theorem is_Mops {w : mm_W} (hw : mm_sh w) : mm_ar w 143 100 40 := sh_a hw (by decide) (by decide) rfl rfl
theorem is_Mat {w : mm_W} (hw : mm_sh w) : mm_ar w 144 100 40 := sh_a hw (by decide) (by decide) rfl rfl
theorem is_Mwide {w : mm_W} (hw : mm_sh w) : mm_ar w 145 100 40 := sh_a hw (by decide) (by decide) rfl rfl
theorem is_Mrow {w : mm_W} (hw : mm_sh w) : mm_ar w 146 100 8 := sh_a hw (by decide) (by decide) rfl rfl
theorem is_Mnumbers {w : mm_W} (hw : mm_sh w) : mm_ar w 147 100 40 := sh_a hw (by decide) (by decide) rfl rfl
theorem is_Mlatest {w : mm_W} (hw : mm_sh w) : mm_ar w 148 100 40 := sh_a hw (by decide) (by decide) rfl rfl
theorem is_Mhas {w : mm_W} (hw : mm_sh w) : mm_ar w 149 101 40 := sh_a hw (by decide) (by decide) rfl rfl
theorem is_Mlefts {w : mm_W} (hw : mm_sh w) : mm_ar w 150 100 320 := sh_a hw (by decide) (by decide) rfl rfl
theorem is_Moutput {w : mm_W} (hw : mm_sh w) : mm_ar w 151 100 64 := sh_a hw (by decide) (by decide) rfl rfl
theorem rf_PT_tables {w : mm_W} (hw : mm_sh w) : mm_r w 1 0 = 2 := sh_q hw (by decide) (by decide) rfl
theorem rf_PT_staged {w : mm_W} (hw : mm_sh w) : mm_r w 1 1 = 52 := sh_q hw (by decide) (by decide) rfl
theorem rf_PT_plan {w : mm_W} (hw : mm_sh w) : mm_r w 1 2 = 53 := sh_q hw (by decide) (by decide) rfl
theorem rf_PT_output {w : mm_W} (hw : mm_sh w) : mm_r w 1 3 = 134 := sh_q hw (by decide) (by decide) rfl
theorem rf_TS_all {w : mm_W} (hw : mm_sh w) : mm_r w 2 0 = 3 := sh_q hw (by decide) (by decide) rfl
theorem rf_T_indexed {w : mm_W} {t : Nat} (hw : mm_sh w) (ht : t < 4) : mm_r w (4 + 12 * t) 2 = (5 + 12 * t) := sh_q hw (by omega) (by omega) ((by decide +kernel : ∀ t, t < 4 → sh_r (4 + 12 * t) 2 = (5 + 12 * t)) t ht)
theorem rf_T_cells {w : mm_W} {t : Nat} (hw : mm_sh w) (ht : t < 4) : mm_r w (4 + 12 * t) 3 = (6 + 12 * t) := sh_q hw (by omega) (by omega) ((by decide +kernel : ∀ t, t < 4 → sh_r (4 + 12 * t) 3 = (6 + 12 * t)) t ht)
theorem rf_T_order {w : mm_W} {t : Nat} (hw : mm_sh w) (ht : t < 4) : mm_r w (4 + 12 * t) 4 = (11 + 12 * t) := sh_q hw (by omega) (by omega) ((by decide +kernel : ∀ t, t < 4 → sh_r (4 + 12 * t) 4 = (11 + 12 * t)) t ht)
theorem rf_PL_words {w : mm_W} (hw : mm_sh w) : mm_r w 53 0 = 54 := sh_q hw (by decide) (by decide) rfl
theorem rf_PL_steps {w : mm_W} (hw : mm_sh w) : mm_r w 53 5 = 55 := sh_q hw (by decide) (by decide) rfl
theorem rf_S_kept {w : mm_W} {s : Nat} (hw : mm_sh w) (hs : s < 39) : mm_r w (56 + 2 * s) 9 = (57 + 2 * s) := sh_q hw (by omega) (by omega) ((by decide +kernel : ∀ s, s < 39 → sh_r (56 + 2 * s) 9 = (57 + 2 * s)) s hs)
theorem rf_OU_cells {w : mm_W} (hw : mm_sh w) : mm_r w 134 0 = 135 := sh_q hw (by decide) (by decide) rfl
theorem rf_MO_columns {w : mm_W} (hw : mm_sh w) : mm_r w 136 2 = 137 := sh_q hw (by decide) (by decide) rfl
theorem rf_MO_indexed {w : mm_W} (hw : mm_sh w) : mm_r w 136 3 = 138 := sh_q hw (by decide) (by decide) rfl
theorem rf_MO_staged {w : mm_W} (hw : mm_sh w) : mm_r w 136 4 = 139 := sh_q hw (by decide) (by decide) rfl
theorem rf_MO_of {w : mm_W} (hw : mm_sh w) : mm_r w 136 6 = 140 := sh_q hw (by decide) (by decide) rfl
theorem rf_MO_cells {w : mm_W} (hw : mm_sh w) : mm_r w 136 7 = 141 := sh_q hw (by decide) (by decide) rfl
theorem rf_MO_plan {w : mm_W} (hw : mm_sh w) : mm_r w 136 9 = 142 := sh_q hw (by decide) (by decide) rfl
theorem rf_MO_ops {w : mm_W} (hw : mm_sh w) : mm_r w 136 12 = 143 := sh_q hw (by decide) (by decide) rfl
theorem rf_MO_at {w : mm_W} (hw : mm_sh w) : mm_r w 136 13 = 144 := sh_q hw (by decide) (by decide) rfl
theorem rf_MO_wide {w : mm_W} (hw : mm_sh w) : mm_r w 136 14 = 145 := sh_q hw (by decide) (by decide) rfl
theorem rf_MO_row {w : mm_W} (hw : mm_sh w) : mm_r w 136 21 = 146 := sh_q hw (by decide) (by decide) rfl
theorem rf_MO_numbers {w : mm_W} (hw : mm_sh w) : mm_r w 136 22 = 147 := sh_q hw (by decide) (by decide) rfl
theorem rf_MO_latest {w : mm_W} (hw : mm_sh w) : mm_r w 136 23 = 148 := sh_q hw (by decide) (by decide) rfl
theorem rf_MO_has {w : mm_W} (hw : mm_sh w) : mm_r w 136 24 = 149 := sh_q hw (by decide) (by decide) rfl
theorem rf_MO_lefts {w : mm_W} (hw : mm_sh w) : mm_r w 136 25 = 150 := sh_q hw (by decide) (by decide) rfl
theorem rf_MO_output {w : mm_W} (hw : mm_sh w) : mm_r w 136 31 = 151 := sh_q hw (by decide) (by decide) rfl
theorem ra_TA {w : mm_W} {t : Nat} (hw : mm_sh w) (ht : t < 4) : mm_r w 3 t = (4 + 12 * t) := sh_q hw (by decide) (by decide) ((by decide +kernel : ∀ t, t < 4 → sh_r 3 t = 4 + 12 * t) t ht)
theorem ra_TC {w : mm_W} {t c : Nat} (hw : mm_sh w) (ht : t < 4) (hc : c < 4) : mm_r w (6 + 12 * t) c = (7 + 12 * t + c) := sh_q hw (by omega) (by omega) ((by decide +kernel : ∀ t, t < 4 → ∀ c, c < 4 → sh_r (6 + 12 * t) c = 7 + 12 * t + c) t ht c hc)
theorem ra_TO {w : mm_W} {t c : Nat} (hw : mm_sh w) (ht : t < 4) (hc : c < 4) : mm_r w (11 + 12 * t) c = (12 + 12 * t + c) := sh_q hw (by omega) (by omega) ((by decide +kernel : ∀ t, t < 4 → ∀ c, c < 4 → sh_r (11 + 12 * t) c = 12 + 12 * t + c) t ht c hc)
theorem ra_SA {w : mm_W} {s : Nat} (hw : mm_sh w) (h : s < 39) : mm_r w 55 s = (56 + 2 * s) := sh_q hw (by decide) (by decide) ((by decide +kernel : ∀ s, s < 39 → sh_r 55 s = 56 + 2 * s) s h)
theorem mm_in_lt {i : Int32} {n : Nat} (h : vp_in i n) : i.toNatClampNeg < n := Nat.not_le.mp fun q => h (Or.inr q)
theorem mm_ne {x : Int32} (k : Int) (n : Int32) (hn : n.toInt = k) (h : ¬ x = n) : x.toInt ≠ k := fun q => h (Int32.toInt_inj.mp (q.trans hn.symm))
