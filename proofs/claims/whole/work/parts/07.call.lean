/-! Calls. -/
def nm_cm (y : MethodName) (cy : ByteArray) (ny : Nat) (ret : Option FieldType) (n : Nat) : Prop := Cond.initialized y.cls ∈ nm_tb ∧ Cond.code y cy ny ret ∈ nm_tb ∧ y.cls ≠ "java/lang/invoke/MethodHandle" ∧ y.cls ≠ "java/lang/invoke/VarHandle" ∧ (parseMethodDescriptor y.desc).map (fun d => d.parameters.length) = some n ∧ ny ≤ 18
def nm_cv (own : String) (idx : Nat) (y : MethodName) : Prop := Cond.methodLink own idx y ∈ nm_tb ∧ Cond.instanceMethod y ∈ nm_tb ∧ Cond.selects y.cls y y ∈ nm_tb
theorem mm_goodIn {y : MethodName} {cy : ByteArray} {ny : Nat} {ret : Option FieldType} (h : Cond.code y cy ny ret ∈ nm_tb) : GoodIn nm_tb (mm_ws y cy ny ret) := by
  intro x hx
  rcases List.mem_cons.mp hx with rfl | hx
  · exact ⟨h, good_of_word (nm_good _ h)⟩
  · exact ⟨hx, good_of_word (nm_good _ hx)⟩
section MMC
variable {E : mm_E} {Γ : mm_G} {cc : ByteArray} {nL pc : Nat} {own : String} {lev kc ks : Nat} {lv : List (Nat × Value)} {st : List Value} {w : mm_W} {f : mm_F} {ca sa : Nat}
variable {y : MethodName} {cy : ByteArray} {ny n idx lev' kc' ks' : Nat} {ret : Option FieldType} {As rest : List Value} {Post : Option Value → mm_W → mm_F → Prop}
theorem mm_blind {as : List Value} : FrameBlind (mm_Pc E as w f) := fun a U g mk h => ⟨h.1, mm_K.same (u := U) rfl h.2.1, h.2.2⟩
theorem mm_callB (h : mm_ok E Γ cc nL own lev kc ks) (hm : nm_cm y cy ny ret n) (hl : Cond.methodLink own idx y ∈ nm_tb) (hlev : lev' < lev) : CallB (mm_rm Γ) (mm_s Γ) (mm_a Γ) own idx y cy ny ret (mm_ws y cy ny ret) (mm_room lev' kc' ks') kc' ks' n := by
  obtain ⟨a1, a2, a3, a4, a5, a6⟩ := hm
  have hts := h.2.2.2.2.1
  have r1 := h.2.2.2.2.2.2.1
  have r2 := h.2.2.2.2.2.2.2.1
  exact callB_of n hts (mm_goodIn a2) rfl rfl rfl (hts _ a1) (hts _ hl) ⟨a3, a4, a5⟩ ⟨by show lev' + 1 ≤ _; omega, by show 8 + (ny + 11) + 37 * lev' ≤ _; omega⟩
theorem mm_back {H : Heap} {locs : List Loc} {ls : Array Slot} {a : Array Value}
    (run : CallRun (mm_p Γ) E.1 (mm_e Γ) (mm_rm Γ) (mm_s Γ) (mm_m Γ) (mm_a Γ) (mm_bl Γ) (mm_me Γ) (mm_c Γ) H locs ca sa kc' ks' (F0 (mm_m Γ) pc ls st) rest (mm_Qc E Post a) (fun q => E.2.2.1 < q))
    (hl : lv_has ls nL lv) (hq : ∀ q ∈ locs, E.2.2.1 < q.base) (kk : ∀ (r : Option Value) (w' : mm_W) (f' : mm_F), Post r w' f' → mm_go E Γ nL (pc + 3) lv (r.toList ++ rest) w' f' (ca + kc') (sa + ks')) :
    W (mm_p Γ) E.1 (mm_e Γ) (mm_rm Γ) (mm_s Γ) (mm_m Γ) (mm_a Γ) (mm_bl Γ) (mm_me Γ) (mm_c Γ) H locs ca sa (mm_q Γ) (F0 (mm_m Γ) pc ls st) := by
  intro T hT X
  obtain ⟨v, st0, t, T', L, h0, X', hL, e1, ⟨r, w', f', hr, hp, hR'⟩, st'⟩ := run T hT X
  cases hr
  obtain ⟨t2, a1, b1⟩ := kk v w' f' hp ls T'.heap (locs ++ L) hl (by rw [e1]; exact hR') (fun q h => by
    rcases List.mem_append.mp h with z | z
    · exact hq q z
    · exact hL q z) T' rfl X'
  exact ⟨t2, st' t2 a1, b1⟩
theorem mm_callV (h : mm_ok E Γ cc nL own lev kc ks) {k a : Nat} {q0 : vw_C} (hc : mm_C E y cy ny ret lev' kc' ks' (mm_rf E a :: As) w f Post) (hv : nm_cv own idx y) (hm : nm_cm y cy ny ret n) (hlev : lev' < lev) (hk : nm_cl[k]? = some q0) (hk2 : q0.1 = y.cls) (ho : mm_is w a k) (hca : ca + kc' ≤ kc) (hsa : sa + ks' ≤ ks) (hn : As.length = n)
    (hst : st = As.reverse ++ mm_rf E a :: rest) (hcat : (rest.map fun v => v.category).sum ≤ 8) (hd : decode cc pc = .ok (.invokevirtual idx, 3))
    (kk : ∀ (r : Option Value) (w' : mm_W) (f' : mm_F), Post r w' f' → mm_go E Γ nL (pc + 3) lv (r.toList ++ rest) w' f' (ca + kc') (sa + ks')) : mm_go E Γ nL pc lv st w f ca sa := by
  obtain ⟨b1, b2, b3⟩ := hv
  intro ls H locs hl hR hq
  have hts := h.2.2.2.2.1
  have hroom := h.2.2.2.2.2.2.2.2
  obtain ⟨cell, g1, g2, g3, -⟩ := hR.obj ho (mm_lt100 hk)
  have hcls := (h.2.2.2.2.2.1.1 k _ hk).2.1
  rw [hk2] at hcls
  have run := W.runV (locs := locs) (cells := ca) (slots := sa) (p := mm_p Γ) (e := mm_e Γ) (below := mm_bl Γ) (meth := mm_me Γ) (g := F0 (mm_m Γ) pc ls st) (H := H) (Ts := nm_tb) ⟨h.1, h.2.1, h.2.2.1, h.2.2.2.1, hts⟩ hc ⟨mm_callB h hm b1 hlev, hts _ b2, hts _ b3⟩
    ⟨mm_blind, ⟨cell, g1, by rw [g3]; rfl, by rw [g2]; exact hcls⟩, fun U hU hW => ⟨rfl, mm_K.moved hW h.2.2.2.2.2.1, by rw [hU]; exact hR⟩⟩ rfl hn hl.1 hst (lv_room hcat) hd ⟨Nat.le_trans hca hroom.1, Nat.le_trans hsa hroom.2⟩
  exact mm_back run hl hq kk
theorem mm_callS (h : mm_ok E Γ cc nL own lev kc ks) (hc : mm_C E y cy ny ret lev' kc' ks' As w f Post) (hv : Cond.methodLink own idx y ∈ nm_tb) (hst2 : Cond.static y ∈ nm_tb) (hm : nm_cm y cy ny ret n) (hlev : lev' < lev) (hca : ca + kc' ≤ kc) (hsa : sa + ks' ≤ ks) (hn : As.length = n)
    (hst : st = As.reverse ++ rest) (hcat : (rest.map fun v => v.category).sum ≤ 8) (hd : decode cc pc = .ok (.invokestatic idx, 3))
    (kk : ∀ (r : Option Value) (w' : mm_W) (f' : mm_F), Post r w' f' → mm_go E Γ nL (pc + 3) lv (r.toList ++ rest) w' f' (ca + kc') (sa + ks')) : mm_go E Γ nL pc lv st w f ca sa := by
  intro ls H locs hl hR hq
  have hts := h.2.2.2.2.1
  have hroom := h.2.2.2.2.2.2.2.2
  have run := W.runS (locs := locs) (cells := ca) (slots := sa) (p := mm_p Γ) (e := mm_e Γ) (below := mm_bl Γ) (meth := mm_me Γ) (g := F0 (mm_m Γ) pc ls st) (H := H) (Ts := nm_tb) ⟨h.1, h.2.1, h.2.2.1, h.2.2.2.1, hts⟩ hc ⟨mm_callB h hm hv hlev, hts _ hst2⟩
    ⟨mm_blind, fun U hU hW => ⟨rfl, mm_K.moved hW h.2.2.2.2.2.1, by rw [hU]; exact hR⟩⟩ rfl hn hl.1 hst (lv_room hcat) hd ⟨Nat.le_trans hca hroom.1, Nat.le_trans hsa hroom.2⟩
  exact mm_back run hl hq kk
theorem mm_callI (h : mm_ok E Γ cc nL own lev kc ks) {a : Nat} (hc : mm_C E y cy ny none lev' kc' ks' (mm_rf E a :: As) w f Post) (hy : y.name = "<init>") (hv : Cond.methodLink own idx y ∈ nm_tb) (hin : Cond.instanceMethod y ∈ nm_tb) (hm : nm_cm y cy ny none n) (hlev : lev' < lev) (hca : ca + kc' ≤ kc) (hsa : sa + ks' ≤ ks) (hn : As.length = n)
    (hst : st = As.reverse ++ mm_rf E a :: rest) (hcat : (rest.map fun v => v.category).sum ≤ 8) (hd : decode cc pc = .ok (.invokespecial idx, 3))
    (kk : ∀ (r : Option Value) (w' : mm_W) (f' : mm_F), Post r w' f' → mm_go E Γ nL (pc + 3) lv (r.toList ++ rest) w' f' (ca + kc') (sa + ks')) : mm_go E Γ nL pc lv st w f ca sa := by
  intro ls H locs hl hR hq
  have hts := h.2.2.2.2.1
  have hroom := h.2.2.2.2.2.2.2.2
  have run := W.runI (locs := locs) (cells := ca) (slots := sa) (p := mm_p Γ) (e := mm_e Γ) (below := mm_bl Γ) (meth := mm_me Γ) (g := F0 (mm_m Γ) pc ls st) (H := H) (Ts := nm_tb) ⟨h.1, h.2.1, h.2.2.1, h.2.2.2.1, hts⟩ hc ⟨mm_callB h hm hv hlev, hy, hts _ hin⟩
    ⟨mm_blind, fun U hU hW => ⟨rfl, mm_K.moved hW h.2.2.2.2.2.1, by rw [hU]; exact hR⟩⟩ rfl hn hl.1 hst (lv_room hcat) hd ⟨Nat.le_trans hca hroom.1, Nat.le_trans hsa hroom.2⟩
  exact mm_back run hl hq kk
theorem mm_callIN (h : mm_ok E Γ cc nL own lev kc ks) {a : Nat} {host : String} (hc : mm_C E y cy ny none lev' kc' ks' (mm_rf E a :: As) w f Post) (hy : y.name = "<init>") (hv : (own, idx, y, host) ∈ nm_nw) (hin : Cond.instanceMethod y ∈ nm_tb) (hm : nm_cm y cy ny none n) (hlev : lev' < lev) (hca : ca + kc' ≤ kc) (hsa : sa + ks' ≤ ks) (hn : As.length = n)
    (hst : st = As.reverse ++ mm_rf E a :: rest) (hcat : (rest.map fun v => v.category).sum ≤ 8) (hd : decode cc pc = .ok (.invokespecial idx, 3))
    (kk : ∀ (r : Option Value) (w' : mm_W) (f' : mm_F), Post r w' f' → mm_go E Γ nL (pc + 3) lv (r.toList ++ rest) w' f' (ca + kc') (sa + ks')) : mm_go E Γ nL pc lv st w f ca sa := by
  intro ls H locs hl hR hq
  have hts := h.2.2.2.2.1
  have hroom := h.2.2.2.2.2.2.2.2
  obtain ⟨a1, a2, a3, a4, a5, a6⟩ := hm
  have r1 := h.2.2.2.2.2.2.1
  have r2 := h.2.2.2.2.2.2.2.1
  have cn := va_cnB (R := mm_rm Γ) (s := mm_s Γ) (args := mm_a Γ) (rm := mm_room lev' kc' ks') (ws := mm_ws y cy ny none) n hts (mm_goodIn a2) rfl rfl rfl (h.2.2.2.2.2.1.2.2.1 _ hv) (hts _ a1) ⟨a3, a4, a5⟩ ⟨by show lev' + 1 ≤ _; omega, by show 8 + (ny + 11) + 37 * lev' ≤ _; omega⟩
  have run := va_runIN (locs := locs) (cells := ca) (slots := sa) (p := mm_p Γ) (e := mm_e Γ) (below := mm_bl Γ) (meth := mm_me Γ) (g := F0 (mm_m Γ) pc ls st) (H := H) (Ts := nm_tb) ⟨h.1, h.2.1, h.2.2.1, h.2.2.2.1, hts⟩ hc ⟨cn, hy, hts _ hin⟩
    ⟨mm_blind, fun U hU hW => ⟨rfl, mm_K.moved hW h.2.2.2.2.2.1, by rw [hU]; exact hR⟩⟩ rfl hn hl.1 hst (lv_room hcat) hd ⟨Nat.le_trans hca hroom.1, Nat.le_trans hsa hroom.2⟩
  refine mm_back (a := (mm_rf E a :: As).toArray) (fun T hT X => ?_) hl hq kk
  obtain ⟨v, st0, t, T', L, h0, X', hL, e1, -, hq', st'⟩ := run T hT X
  exact ⟨v, st0, t, T', L, h0, X', hL, e1, hq', st'⟩
theorem mm_obj (h : mm_ok E Γ cc nL own lev kc ks) {a : Nat} (hl : Cond.methodLink own idx Lib.objectInit ∈ nm_tb) (hi : Cond.instanceMethod Lib.objectInit ∈ nm_tb) (hc : Cond.code Lib.objectInit ⟨#[0xb1]⟩ 1 none ∈ nm_tb) (hlev : 0 < lev) (hcat : (st.map fun v => v.category).sum ≤ 8) (hd : decode cc pc = .ok (.invokespecial idx, 3)) (kk : mm_go E Γ nL (pc + 3) lv st w f ca sa) : mm_go E Γ nL pc lv (mm_rf E a :: st) w f ca sa := by
  intro ls H locs hl' hR hq
  have hts := h.2.2.2.2.1
  have r1 := h.2.2.2.2.2.2.1
  have r2 := h.2.2.2.2.2.2.2.1
  have hr := lv_room (m := mm_m Γ) (pc := pc) (ls := ls) (rest := mm_rf E a :: st) hcat
  exact W.objInit h.1 h.2.1 h.2.2.2.1 (hts _ hl) (hts _ hi) (hts _ hc) rfl (hl'.1.trans h.2.2.1.symm) rfl hd (by omega) (by omega) (kk ls H locs hl' hR hq)
end MMC
