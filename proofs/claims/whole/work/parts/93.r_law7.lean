/-! The law: from its entry to its end; the claim. -/
theorem cm_PT_init : nm_cm y_PT_init b_PT_init 1 none 0 := ⟨nw_1, nw_21, by decide, by decide, by decide +kernel, by decide⟩
theorem cm_MD_init : nm_cm y_MD_init b_MD_init 1 none 0 := ⟨nw_7, nw_625, by decide, by decide, by decide +kernel, by decide⟩
def z_W : mm_W := (1, fun _ => 0, fun _ => 0, fun _ _ => 0, fun _ _ => 0)
def z_F : mm_F := fun _ _ => 0
def z_Q (s : State) (o : Outcome) (t : State) : Prop := o = .returned (some (.int 1)) ∧ Framed s o t [] 601024 7293034
def z_E (below : List Frame) (s : State) : State → Prop := fun t => ∃ o, t.status = .running ∧ Ended t below o ∧ z_Q s o t
theorem z_ret {p : Program} {l : Launch} {e : Env} {s : State} {m : MethodId} {a : Array Value} {below : List Frame} {meth : Method} {c : Code} (hx : p.tables.exec = Jvm.exec) (hb : c.code = code) (hr : meth.sig.returnType = ret) (hlocks : meth.locks = false) {pc : Nat} {H : Heap} {ls : Array Slot} (hdg : decode code pc = .ok (.ireturn, 1)) : W p l e room_1 s m a below meth c H [] 601024 7293034 (z_E below s) (F0 m pc ls [.int 1]) := by
  intro T hT X
  obtain ⟨fs, hret, hrun, hended, hW, hframe⟩ := X.leave (v := some (.int 1)) (hlocks := hlocks) (fun h => by rw [hr] at h; cases h)
  have hmeth' : T.vm.method? m = some meth := X.method'
  refine ⟨T.setFrames fs, ?_, .returned (some (.int 1)), hrun, hended, rfl, ⟨_, rfl⟩, hW, hframe⟩
  jvm_step X.here [X.here.top, hx, hb, hdg, hmeth', hr, ret, narrow_b1]
  (try refine ⟨rfl, ?_⟩); (try refine ⟨rfl, ?_⟩)
  first | (intro acts; rw [hret _ acts rfl rfl rfl]) | rw [hret _ _ rfl rfl rfl]
  exact Steps.refl _
/-- behind the constructors -/
theorem z_sh {w0 w2 w4 : mm_W} {f0 f2 f4 : mm_F} (h12 : blk w0 w2 f0 f2 1 136 sh_r) (h34 : blk (mm_new w2 7 0) w4 (mm_f0 w2 f2) f4 136 152 sh_r) (h0 : f0 0 = fun _ => 0) : mm_sh (mm_new w4 102 1) ∧ IV (mm_f0 w4 f4) := by
  have h23 := blk_new (w := w2) (f := f2) (k := 7) (l := 0) (a := 136) h12.2.1 rfl rfl
  have h45 := blk_new (w := w4) (f := f4) (k := 102) (l := 1) (a := 152) h34.2.1 rfl rfl
  have r152 : sh_r 152 = fun _ => 0 := sh_r_eq (by omega) (by decide +kernel) (fun _ _ => rfl)
  have all : ∀ a, 0 < a → a < 153 → mm_k (mm_new w4 102 1) a = sh_k a ∧ mm_l (mm_new w4 102 1) a = sh_l a ∧ mm_r (mm_new w4 102 1) a = sh_r a ∧ mm_f0 w4 f4 a = fun _ => 0 := fun a h1 h2 => by
    by_cases z : a < 152
    · obtain ⟨a1, a2, a3, a4⟩ := h45.2.2.1 a z
      rw [a1, a2, a3, a4]
      by_cases y : a < 136
      · obtain ⟨b1, b2, b3, b4⟩ := h34.2.2.1 a y
        obtain ⟨c1, c2, c3, c4⟩ := h23.2.2.1 a y
        rw [b1, b2, b3, b4, c1, c2, c3, c4]
        exact h12.2.2.2 a (by omega) y
      · exact h34.2.2.2 a (by omega) z
    · obtain ⟨a1, a2, a3, a4⟩ := h45.2.2.2 a (by omega) (by omega)
      have e : a = 152 := by omega
      subst e
      exact ⟨a1, a2, by rw [a3, r152], a4⟩
  refine ⟨⟨by rw [h45.2.1]; omega, fun a h1 h2 => ⟨(all a h1 h2).1, (all a h1 h2).2.1, fun j => by rw [(all a h1 h2).2.2.1]⟩⟩, Iv_zero fun a j ha => ?_⟩
  by_cases z : a = 0
  · subst z
    rw [(h45.2.2.1 0 (by omega)).2.2.2, (h34.2.2.1 0 (by omega)).2.2.2, (h23.2.2.1 0 (by omega)).2.2.2, (h12.2.2.1 0 (by omega)).2.2.2, h0]
  · rw [(all a (by omega) ha).2.2.2]
theorem z_r1 : 8 ≤ room_1.frames := by decide
theorem z_r2 : 37 * 8 ≤ room_1.locals := by decide
theorem z_r3 : 601024 ≤ room_1.cells := Nat.le_refl 601024
theorem z_r4 : 7293034 ≤ room_1.slots := Nat.le_refl 7293034
theorem z_start {p : Program} {e : Env} {s : State} {m : MethodId} {below : List Frame} {meth : Method} {c : Code} {l : Launch} {b L : Nat} {xs : Nat → Int32} (hfl : l.flags = flags0) (hL : L ≤ 2048) (hx : p.tables.exec = Jvm.exec) (hb : c.code = code) (hr : meth.sig.returnType = ret) (hml : c.maxLocals = 7) (hown : s.vm.findClass "PlannedTablesLaw" = some m.cls) (hts : ∀ w ∈ lw_tbl, w.before #[Value.ref b] s = true) (hX : va_X b L xs s s.heap) (hbl : b < s.heap.size) (hlk : meth.locks = false) (hg : (Jvm.Cond.and given_1 narrow_1).before #[Value.ref b] s = true) :
    W p l e room_1 s m #[Value.ref b] below meth c s.heap [] 0 0 (z_E below s) (entryFrame m ([Value.ref b] : List Value).toArray 7) := by
  obtain ⟨D, hK⟩ := lw_known hts
  generalize hE : ((l, D, s.heap.size - 1, fun q => s.heap[q]?) : mm_E) = E
  generalize hΓ : ((p, e, room_1, s, m, #[Value.ref b], below, meth, c, z_E below s) : mm_G) = Γ
  have hok : mm_ok E Γ code 7 "PlannedTablesLaw" 8 601024 7293034 := by
    subst hE hΓ
    exact ⟨hx, hb, hml, hown, fun w hw => hts w (List.mem_filter.mp hw).1, hK, z_r1, z_r2, z_r3, z_r4⟩
  have hR0 : mm_R E.2.1 E.2.2.1 E.2.2.2 z_W z_F s.heap := by
    subst hE
    exact ⟨by show s.heap.size = s.heap.size - 1 + 1; omega, fun q _ => rfl, fun a h1 h2 => by
      have : a < 1 := h2
      omega⟩
  have hoX : mm_oX E Γ := by
    subst hΓ
    exact ⟨lw_exc hts hg, ⟨z_W, z_F, hR0⟩, by rw [← hE]; exact hfl⟩
  have hSc : mm_Sc E Γ b L xs := by
    obtain ⟨scr, h1, h2, h3, h4, h5⟩ := hX
    subst hE hΓ
    exact ⟨by show b ≤ s.heap.size - 1; omega, scr, h1, h2, h3, h4, h5⟩
  have hend : ∀ (lv : List (Nat × Value)) (w : mm_W) (f : mm_F), mm_go E Γ 7 759 lv [.int 1] w f 601024 7293034 := by
    intro lv w f ls H locs hl hR hq
    subst hE hΓ
    exact W.forget (L := locs) (locs := []) (fun q hq' => by
      have z : s.heap.size - 1 < q.base := hq q hq'
      show s.heap.size ≤ q.base
      omega) (z_ret hx hb hr hlk d_LW_law_759)
  have hgo : mm_go E Γ 7 0 (lv_args 0 [Value.ref b]) [] z_W z_F 0 0 := by
    refine mm_newc (k := 0) (N := 5) (q := _) hok rfl nw_17 nw_18 nw_1 (by decide) (by omega) (by omega) d_LW_law_0 ?_
    refine mm_dup hok d_LW_law_3 rfl ?_
    refine mm_callI hok (a := 1) (As := []) (rest := [mm_rf E 1]) (c_PT_init (blk_new (w := z_W) (f := z_F) (k := 0) (l := 0) (a := 1) rfl rfl rfl).self) rfl nw_19 nw_20 cm_PT_init (by omega) (by omega) (by omega) rfl rfl (Nat.le_of_ble_eq_true rfl) d_LW_law_4 ?_
    rintro r w2 f2 ⟨rfl, h12⟩
    refine mm_astore_n (lv' := [(1, mm_rf E 1), (0, .ref b)]) hok d_LW_law_7 rfl (by decide) rfl ?_
    refine mm_newc (k := 7) (N := 32) (q := _) hok rfl nw_621 nw_622 nw_7 (by rw [h12.2.1]; omega) (by omega) (by omega) d_LW_law_8 ?_
    rw [h12.2.1]
    refine mm_dup hok d_LW_law_11 rfl ?_
    refine mm_callI hok (a := 136) (As := []) (rest := [mm_rf E 136]) (c_MD_init (blk_new (w := w2) (f := f2) (k := 7) (l := 0) (a := 136) h12.2.1 rfl rfl).self) rfl nw_623 nw_624 cm_MD_init (by omega) (by omega) (by omega) rfl rfl (Nat.le_of_ble_eq_true rfl) d_LW_law_12 ?_
    rintro r w4 f4 ⟨rfl, h34⟩
    refine mm_astore_n (lv' := [(2, mm_rf E 136), (1, mm_rf E 1), (0, .ref b)]) hok d_LW_law_15 rfl (by decide) rfl ?_
    refine mm_iconst (v := 1) hok d_LW_law_16 (by decide) ?_
    refine mm_newa (atype := .long) hok 2 (k := 102) (N := 1) rfl rfl rfl ac_long (fun _ => rfl) (by decide) rfl (by decide) (by rw [h34.2.1]; omega) (by omega) (by omega) d_LW_law_17 (fun U c z => z) ?_
    rw [h34.2.1]
    refine mm_astore_n (lv' := [(3, mm_rf E 152), (2, mm_rf E 136), (1, mm_rf E 1), (0, .ref b)]) hok d_LW_law_19 rfl (by decide) rfl ?_
    refine mm_iconst (v := nI 0) hok d_LW_law_20 (by decide) ?_
    refine mm_istore (lv' := lw_lv E b 0) hok d_LW_law_21 (by decide) rfl ?_
    obtain ⟨hsh, hI⟩ := z_sh h12 h34 (by
      funext j
      rw [mm_f0_at, if_neg (by decide)]
      rfl)
    exact lw_loop hok hoX hSc hL hend 512 0 _ _ _ _ (by omega) (by omega) (by omega) (by omega) hsh hI
  rw [lg_entry_eq]
  have fin := hgo _ s.heap [] (lv_entry [Value.ref b] (Nat.le_of_ble_eq_true rfl)) hR0 (fun q h => by cases h)
  subst hE hΓ
  exact fin
