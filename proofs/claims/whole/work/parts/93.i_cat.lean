/-! Catching: the search of a method's own table, where the catch types may be looked up for the first time. -/
def x_en (q : Nat × Nat × Nat × Nat) : ExceptionTableEntry := ⟨q.1, q.2.1, q.2.2.1, q.2.2.2⟩
theorem x_tab {hs : List (Nat × Nat × Nat × Nat)} : ∀ {l : List ExceptionTableEntry}, l.map (fun h => (h.startPc, h.endPc, h.handlerPc, h.catchType)) = hs → l = hs.map x_en := by
  intro l h
  rw [← h, List.map_map]
  clear h
  induction l with
  | nil => rfl
  | cons a t ih => rw [List.map_cons, ← ih]; rfl
theorem x_look {e : Env} {s0 s : State} {f : JFrame} {a : Addr} {own C CX : String} {args : Array Value} {cell : Cell} {x : ExceptionTableEntry} {t : List ExceptionTableEntry} {bb : Bool}
    (hpl : e.platform.magicAccessors = ({} : Platform).magicAccessors) (hW : s0.WarmedH s.vm) (hown : s0.vm.findClass own = some f.method.cls) (hl : (Cond.classLink own x.catchType C).before args s0 = true)
    (hx : covers x f.pc = true) (h0 : x.catchType ≠ 0) (hcell : s.heap[a]? = some cell) (hobj : cell.vm.isStatics = false) (hX : s0.vm.findClass CX = some cell.cls) (hcast : ∀ c, s0.vm.findClass C = some c → s0.vm.assignable cell.cls c = bb) :
    ∃ vm' : Vm, s0.WarmedH vm' ∧ ∀ (Q : Handler → Pre) (E : CtlPost) (d : Bool) (acts : List Action), wp (findHandler.go f a (x :: t)) Q E e d acts s ↔ if bb = true then Q (.found x.handlerPc) d acts (s.setVm vm') else wp (findHandler.go f a t) Q E e d acts (s.setVm vm') := by
  obtain ⟨c, hfc, hcl⟩ := Cond.classLink_spec hown hl e.platform hpl
  obtain ⟨hg, hw, hr⟩ := State.classEntry (e := e) hW hcl
  obtain ⟨ha, ht⟩ := hg.op (op := VmOp.resolveClass f.method.cls x.catchType) rfl
  have hsz : (s.vm.noted f.method.cls x.catchType (.cls c)).classes.size ≤ s.vm.classes.size := by simp
  generalize s.vm.noted f.method.cls x.catchType (.cls c) = vm' at hg hw hr ha ht hsz
  have hb := hcast c hfc
  have hb' : vm'.assignable cell.cls c = bb := by rw [hw.alike.assignable]; exact hb
  obtain ⟨k, hk⟩ := Vm.classAt_of_findClass (vm := vm') (name := CX) (c := cell.cls) (by rw [hw.alike.findClass]; exact hX)
  obtain ⟨k2, hk2⟩ := Vm.classAt_of_findClass (vm := vm') (name := C) (c := c) (by rw [hw.alike.findClass]; exact hfc)
  have hob : ∀ k, cell.vm ≠ .statics k := VmData.ne_statics_of hobj
  refine ⟨vm', hw, fun Q E d acts => ?_⟩
  simp only [covers] at hx
  cases bb <;> simp [findHandler.go, hx, h0, ha, ht, VmOp.lands_eq ht hsz, hcell, hob, hk, hk2, hb', VmOp.dirties, VmOp.acts]
/-- the rows of pre are passed, row x takes the exception -/
theorem x_find {e : Env} {s0 : State} {f : JFrame} {a : Addr} {own C CX : String} {args : Array Value} {cell : Cell} {x : ExceptionTableEntry} {rest : List ExceptionTableEntry}
    (hpl : e.platform.magicAccessors = ({} : Platform).magicAccessors) (hown : s0.vm.findClass own = some f.method.cls) (hobj : cell.vm.isStatics = false) (hX : s0.vm.findClass CX = some cell.cls)
    (hl : (Cond.classLink own x.catchType C).before args s0 = true) (hx : covers x f.pc = true) (h0 : x.catchType ≠ 0) (hcast : ∀ c, s0.vm.findClass C = some c → s0.vm.assignable cell.cls c = true) :
    ∀ (pre : List (ExceptionTableEntry × String)) (s : State), (∀ q ∈ pre, (Cond.classLink own q.1.catchType q.2).before args s0 = true ∧ covers q.1 f.pc = true ∧ q.1.catchType ≠ 0 ∧ ∀ c, s0.vm.findClass q.2 = some c → s0.vm.assignable cell.cls c = false) → s0.WarmedH s.vm → s.heap[a]? = some cell →
    ∃ vm' : Vm, s0.WarmedH vm' ∧ ∀ (Q : Handler → Pre) (E : CtlPost) (d : Bool) (acts : List Action), wp (findHandler.go f a (pre.map Prod.fst ++ x :: rest)) Q E e d acts s ↔ Q (.found x.handlerPc) d acts (s.setVm vm') := by
  intro pre
  induction pre with
  | nil =>
    intro s _ hW hcell
    obtain ⟨vm', h1, h2⟩ := x_look (t := rest) hpl hW hown hl hx h0 hcell hobj hX hcast
    exact ⟨vm', h1, fun Q E d acts => by rw [show (List.map Prod.fst [] ++ x :: rest : List ExceptionTableEntry) = x :: rest from rfl, h2, if_pos rfl]⟩
  | cons q t ih =>
    intro s hp hW hcell
    obtain ⟨p1, p2, p3, p4⟩ := hp q List.mem_cons_self
    obtain ⟨vm1, h1, h2⟩ := x_look (t := t.map Prod.fst ++ x :: rest) hpl hW hown p1 p2 p3 hcell hobj hX p4
    obtain ⟨vm2, h3, h4⟩ := ih (s.setVm vm1) (fun r hr => hp r (List.mem_cons_of_mem _ hr)) h1 hcell
    refine ⟨vm2, h3, fun Q E d acts => ?_⟩
    rw [show (List.map Prod.fst (q :: t) ++ x :: rest : List ExceptionTableEntry) = q.1 :: (t.map Prod.fst ++ x :: rest) from rfl, h2, if_neg (by decide), h4]
    rfl
/-- the search finds, and leaves warmer tables -/
def FindsW (e : Env) (s : State) (f : JFrame) (a : Addr) (h : Handler) (vm' : Vm) : Prop :=
  ∀ (Q : Handler → Pre) (E : CtlPost) (d : Bool) (acts : List Action), wp (findHandler f a) Q E e d acts s ↔ Q h d acts (s.setVm vm')
theorem x_caughtStep {e : Env} {s : State} {a : Addr} {f : JFrame} {r : List Frame} {pc : Nat} {vm' : Vm} (hfind : FindsW e s f a (.found pc) vm') :
    (stepThrowing e s a (.java f :: r)).Is ((s.setVm vm').setFrames (.java { f with pc := pc, stack := [.ref a] } :: r)) [] := by
  simp only [stepThrowing, searchFrame, vmDo]
  generalize hr : Sem.go _ e false [] s = res
  obtain ⟨as, rfl, ha⟩ := Sem.eq_ok_of hr (a := Handler.found pc) (s' := s.setVm vm') (acts' := []) (by simp [hfind _ _ _ _])
  exact ⟨rfl, ha⟩
theorem x_caught {tb : Tables} {e : Env} {s target : State} {g : JFrame} {c : Code} {below : List Frame} {a : Addr} {vm' : Vm} (h : At s g.method c below) {pc : Nat} (hfind : FindsW e ((s.setTop g).pushFrame (.throwing a)) g a (.found pc) vm')
    (hrest : Steps tb e below ((s.setVm vm').setTop { g with pc := pc, stack := [.ref a] }) target) :
    Steps tb e below ((s.setTop g).pushFrame (.throwing a)) target := by
  obtain ⟨hgo, hw⟩ := h.throwing a
  refine Steps.head hgo hw ?_
  rw [stepThread_throwing (frames_entered h.top _), (x_caughtStep (s := (s.setTop g).pushFrame (.throwing a)) hfind).1]
  obtain ⟨g₀, hg⟩ := Option.isSome_iff_exists.mp h.top
  obtain ⟨r, hr⟩ := State.topJava?_eq_some.mp hg
  have hr' : (s.setVm vm').frames = .java g₀ :: r := hr
  rw [State.setTop_of_frames _ hr'] at hrest
  have e1 : (((s.setTop g).pushFrame (.throwing a)).setVm vm').setFrames (.java { g with pc := pc, stack := [.ref a] } :: s.frames.tail) = (s.setVm vm').setFrames (.java { g with pc := pc, stack := [.ref a] } :: r) := by
    rw [State.pushFrame, State.setTop_of_frames _ hr, State.setFrames_setFrames, hr]
    show ((s.setVm vm').setFrames _).setFrames _ = _
    rw [State.setFrames_setFrames]
    rfl
  rw [e1]
  exact hrest
/-- the contract of a method with handlers of its own -/
def mm_CW (E : mm_E) (y : MethodName) (cc : ByteArray) (nL : Nat) (ret : Option FieldType) (hs : List (Nat × Nat × Nat × Nat)) (lev kc ks : Nat) (as : List Value) (w : mm_W) (f : mm_F) (Post : Option Value → mm_W → mm_F → Prop) : Prop :=
  MetFree E.1 y (headSpec (Cond.codeWith y cc nL ret hs :: nm_tb) (mm_room lev kc ks)) (mm_PX E as w f) (fun _ _ _ _ _ => True) (fun a st o t => mm_Qc E Post a st o t ∧ ∃ L, FrameEnd st o t L kc ks ∧ ∀ q ∈ L, E.2.2.1 < q.base)
theorem mm_startW {E : mm_E} {y : MethodName} {cc : ByteArray} {nL : Nat} {ret : Option FieldType} {hs : List (Nat × Nat × Nat × Nat)} {own : String} {lev kc ks : Nat} {as : List Value} {w : mm_W} {f : mm_F} {Post : Option Value → mm_W → mm_F → Prop} (hfl : E.1.flags = flags0) (hy : plainName y.cls = true) (hown : y.cls = own) (hlen : (lg_sl as).length ≤ nL)
    (body : ∀ Γ : mm_G, mm_ok E Γ cc nL own lev kc ks → mm_oX E Γ → (mm_c Γ).exceptionTable.toList = hs.map x_en → mm_end E Γ ret kc ks Post y.name → mm_go E Γ nL 0 (lv_args 0 as) [] w f 0 0) : mm_CW E y cc nL ret hs lev kc ks as w f Post := by
  refine MetFree.of_bodyS (code := cc) (maxLocals := nL) (ret := ret) hy ?_ ?_
  · intro args s m h hn
    obtain ⟨m', meth, c, h0, h1, h2, h3, h4, h5, h6, h7, h8⟩ := Cond.codeWith_spec (atoms_spec (ws := Cond.codeWith y cc nL ret hs :: nm_tb) h _ List.mem_cons_self)
    cases Option.some.inj (h0.symm.trans hn)
    exact ⟨meth, c, h1, h2, h3, h4, h6, h7⟩
  · intro p e s m args below meth c s₁ B hml hP _
    obtain ⟨⟨rfl, hK, hR⟩, hX⟩ := hP
    have hh0 : s₁.heap = s.heap := by rw [B.state]; rfl
    have hts := atoms_spec (ws := Cond.codeWith y cc nL ret hs :: nm_tb) B.pre
    have hfc : s.vm.findClass own = some m.cls := by rw [← hown]; exact findClass_of_methodNamed B.named
    obtain ⟨m', meth', c', h0, h1, h2, h3, h4, h5, h6, h7, h8⟩ := Cond.codeWith_spec (hts _ List.mem_cons_self)
    cases Option.some.inj (h0.symm.trans B.named)
    cases Option.some.inj (h1.symm.trans B.method)
    cases Option.some.inj (h2.symm.trans (Stand.of_body B).code)
    have hg := body (p, e, (headSpec (Cond.codeWith y cc nL ret hs :: nm_tb) (mm_room lev kc ks)).room, s, m, as.toArray, below, meth, c, MQ below (mm_Qc E Post) as.toArray s kc ks (fun q => E.2.2.1 < q))
      ⟨B.exec, B.bytes, hml, hfc, fun x hx => hts x (List.mem_cons_of_mem _ hx), hK, Nat.le_refl _, Nat.le_refl _, Nat.le_refl _, Nat.le_refl _⟩ ⟨hX, ⟨w, f, hR⟩, hfl⟩ (x_tab h5) ⟨fun _ z => z, B.returns, B.notSynchronized, (name_of_methodNamed B.named B.method).1⟩
    obtain ⟨t, a1, o, b1, b2, b3⟩ := hg _ _ [] (lv_entry as hlen) hR (fun q h => by cases h) s₁ hh0 (Stand.of_body B)
    rw [lg_entry_eq]
    exact ⟨t, o, a1, b1, b2, b3⟩
theorem mm_blindX {E : mm_E} {as : List Value} {w : mm_W} {f : mm_F} : FrameBlind (mm_PX E as w f) := fun a U g mk h => ⟨mm_blind a U g mk h.1, mm_X.moved (U := U.calling g mk a) (State.WarmedH.refl U) h.1.2.2 h.1.2.2 h.2⟩
/-- what the search leans on: the row's class takes, the rows before it don't -/
def x_row (own CX : String) (pc : Nat) (q : (Nat × Nat × Nat × Nat) × String) : Prop := Cond.classLink own q.1.2.2.2 q.2 ∈ nm_tb ∧ covers (x_en q.1) pc = true ∧ q.1.2.2.2 ≠ 0 ∧ q.2 ∈ xw_cls
theorem x_yes {s : State} {C : String} {c : ClassId} (hX : mm_X s) (hC : C ∈ xw_cls) (hf : s.vm.findClass C = some c) : s.vm.assignable c c = true := by
  have h := hX.2.1 C hC
  simp only [Cond.before, Cond.holds, Cond.value, hf] at h
  simpa using h
theorem x_no {s : State} {C C' : String} {c c' : ClassId} (hX : mm_X s) (hC : C ∈ xw_cls) (hC' : C' ∈ xw_cls) (hne : C ≠ C') (hf : s.vm.findClass C = some c) (hf' : s.vm.findClass C' = some c') : s.vm.assignable c c' = false := by
  have h := hX.2.2.1 C hC C' hC' hne
  simp only [Cond.before, Cond.holds, Cond.value, hf, hf'] at h
  simpa using h
section XCC
variable {E : mm_E} {Γ : mm_G} {cc : ByteArray} {nL pc : Nat} {own : String} {lev kc ks : Nat} {lv : List (Nat × Value)} {st : List Value} {w : mm_W} {f : mm_F} {ca sa : Nat}
variable {y : MethodName} {cy : ByteArray} {ny n idx lev' kc' ks' : Nat} {ret : Option FieldType} {As rest : List Value} {Post : Option Value → mm_W → mm_F → Prop}
/-- the premise on a callee that throws, out of its contract -/
theorem mm_backT {as : List Value} {k : Nat} {w1 : mm_W} {f1 : mm_F} (h : mm_ok E Γ cc nL own lev kc ks) (hc : mm_T E y cy ny ret lev' kc' ks' as w f k w1 f1) (hm : nm_cm y cy ny ret n) (hl : Cond.methodLink own idx y ∈ nm_tb) (hlev : lev' < lev) :
    BackT E.1 (mm_rm Γ) (mm_p Γ) (mm_e Γ) (mm_bl Γ) (mm_s Γ) (mm_a Γ) y 3 8 (PreOf (mm_rm Γ) kc' ks' (mm_PX E as w f)) (fun A a x B => ∃ L : List Loc, x = E.2.2.1 + mm_n w1 ∧ mm_R E.2.1 E.2.2.1 E.2.2.2 (mm_new w1 k 0) (mm_f0 w1 f1) B.U.heap ∧ B.locs = A.locs ++ L ∧ (∀ q ∈ L, E.2.2.1 < q.base) ∧ B.cells = A.cells + kc' ∧ B.slots = A.slots + ks') := by
  obtain ⟨hrc, hrs, hfr, hlo, hws, hcw, -, hini, -⟩ := mm_callB (kc' := kc') (ks' := ks') h hm hl hlev
  refine BackT.of_free (S := headSpec (mm_ws y cy ny ret) (mm_room lev' kc' ks')) (P := mm_PX E as w f) (K := fun _ _ _ _ _ => True) (Q := fun _ st o t => mm_QX E k w1 f1 o t ∧ ∃ L, x_end st o t L kc' ks' ∧ ∀ q ∈ L, E.2.2.1 < q.base) (bytes := cy) (maxL := ny) (ret := ret)
    (E := fun a st o t L k n => k = kc' ∧ n = ks' ∧ ∀ q ∈ L, E.2.2.1 < q.base) hc hfr hlo ?_ ?_ (fun _ _ _ _ _ _ _ _ _ => trivial) ?_ ?_
  · intro m meth c A a X hp
    exact ⟨atoms_intro fun w hw => hws w hw _ _ X.warmed, hws _ hcw _ _ X.warmed, word_at X.warmed (Or.inl rfl) hini, hp.1, hp.2.1⟩
  · intro m meth c A a g mk X hp
    exact mm_blindX _ _ _ _ hp.2.2
  · intro a st o t ⟨hq, L, hF, hL⟩
    exact ⟨L, kc', ks', hF, rfl, rfl, hL⟩
  · intro m meth c A a g mk v t L k n X hp hq hF ⟨e1, e2, hL⟩
    subst e1; subst e2
    obtain ⟨⟨q1, q2⟩, -⟩ := hq
    cases q1
    exact ⟨L, rfl, q2, rfl, hL, rfl, rfl⟩
/-- a virtual call that throws, caught by a row of the caller's own table -/
theorem mm_callT {k a : Nat} {q0 q1 : vw_C} {w1 : mm_W} {f1 : mm_F} {CX : String} {pre : List ((Nat × Nat × Nat × Nat) × String)} {x : Nat × Nat × Nat × Nat} {rs : List (Nat × Nat × Nat × Nat)} (h : mm_ok E Γ cc nL own lev kc ks) (hx : mm_oX E Γ) (htab : (mm_c Γ).exceptionTable.toList = (pre.map Prod.fst ++ x :: rs).map x_en) {kX : Nat} (hc : mm_T E y cy ny ret lev' kc' ks' (mm_rf E a :: As) w f kX w1 f1) (hv : nm_cv own idx y) (hm : nm_cm y cy ny ret n) (hlev : lev' < lev) (hk : nm_cl[k]? = some q0) (hk2 : q0.1 = y.cls) (ho : mm_is w a k) (hca : ca + kc' ≤ kc) (hsa : sa + ks' ≤ ks) (hn : As.length = n)
    (hst : st = As.reverse ++ mm_rf E a :: rest) (hcat : (rest.map fun v => v.category).sum ≤ 8) (hd : decode cc pc = .ok (.invokevirtual idx, 3)) (hkX : nm_cl[kX]? = some q1) (hCX : q1.1 = CX) (hin : CX ∈ xw_cls) (h0 : 0 < mm_n w1)
    (hrow : x_row own CX pc (x, CX)) (hpre : ∀ q ∈ pre, x_row own CX pc q ∧ CX ≠ q.2)
    (kk : mm_go E Γ nL x.2.2.1 lv [mm_rf E (mm_n w1)] (mm_new w1 kX 0) (mm_f0 w1 f1) (ca + kc') (sa + ks')) : mm_go E Γ nL pc lv st w f ca sa := by
  obtain ⟨b1, b2, b3⟩ := hv
  intro ls H locs hl hR hq T hT X
  have hts := h.2.2.2.2.1
  have hroom := h.2.2.2.2.2.2.2.2
  obtain ⟨cell, g1, g2, g3, -⟩ := hR.obj ho (mm_lt100 hk)
  have hcls := (h.2.2.2.2.2.1.1 k _ hk).2.1
  rw [hk2] at hcls
  have hclX := (h.2.2.2.2.2.1.1 kX _ hkX).2.1
  rw [hCX] at hclX
  obtain ⟨a1, a2, a3, a4, a5, a6⟩ := hm
  obtain ⟨mk, methM, hnamed, hmethM, hstM, habM⟩ := Cond.instanceMethod_spec (hts _ b2)
  obtain ⟨methM', cM, hmethM', -, -, -, -, -, -, hsigM⟩ := Cond.code_spec hnamed (hts _ a2)
  cases hmethM.symm.trans hmethM'
  obtain ⟨c2, r2, m2, s1, s2, s3, s4, kP, hkP, hkPi⟩ := Cond.selects_spec (hts _ b3)
  cases hcls.symm.trans s1
  cases (State.methodFound?_of_named hnamed ⟨a3, a4⟩).symm.trans s2
  cases hnamed.symm.trans s3
  have hcellT : T.heap[E.2.2.1 + a]? = some cell := by rw [hT]; exact g1
  have hcc : cell.cls = E.2.1.1 k := g2
  have hselP : selectMethod (mm_e Γ).platform (mm_s Γ).vm cell.cls mk = .method mk := by rw [Launch.admits_selectMethod X.admits, hcc]; exact s4
  obtain ⟨vm₁, X₁, hstep₁⟩ := X.invokevirtual h.1 h.2.2.2.1 (hts _ b1) hnamed hmethM hstM hkP hkPi ⟨a3, a4⟩ (a := E.2.2.1 + a) (cell := cell) hcellT
    (fun z hz => by rw [hz] at g3; cases g3) hselP hmethM habM hkP hkPi (g := F0 (mm_m Γ) pc ls st) rfl (argsL := As) (rest := rest) (by
      have z := a5
      rw [hsigM] at z
      rw [hn]; exact (Option.some.inj z).symm) hst (by rw [h.2.1]; exact hd)
  obtain ⟨v, B, X', ⟨L, e1, e2, e3, e4, e5, e6⟩, hsteps⟩ := mm_backT h hc ⟨a1, a2, a3, a4, a5, a6⟩ b1 hlev (mm_m Γ) (mm_me Γ) (mm_c Γ) ⟨T.setVm vm₁, locs, ca, sa⟩ (F0 (mm_m Γ) pc ls rest) (.invokevirtual idx) mk (mm_rf E a :: As).toArray X₁ rfl (hl.1.trans h.2.2.1.symm) (by rw [h.2.1]; exact hd) (lv_room hcat) (X₁.named hnamed)
    ⟨Nat.le_trans hca hroom.1, Nat.le_trans hsa hroom.2, ⟨rfl, mm_K.moved (U := T.setVm vm₁) X₁.warmed h.2.2.2.2.2.1, by show mm_R _ _ _ _ _ T.heap; rw [hT]; exact hR⟩, by
      obtain ⟨hX, ⟨w0, f0, hR0⟩, -⟩ := hx
      exact mm_X.moved (U := T.setVm vm₁) X₁.warmed hR0 (by show mm_R _ _ _ w f T.heap; rw [hT]; exact hR) hX⟩
  obtain ⟨U', l2, c2', s2'⟩ := B
  dsimp only [Pt.U, Pt.locs, Pt.cells, Pt.slots] at X' e2 e3 e5 e6 hsteps
  subst e1; subst e3; subst e5; subst e6
  have hkX' : mm_k (mm_new w1 kX 0) (mm_n w1) = kX := by simp [mm_k, mm_new, mm_n]
  obtain ⟨ce, z1, z2, z3, -⟩ := e2.obj (a := mm_n w1) (k := kX) ⟨h0, by show mm_n w1 < mm_n w1 + 1; omega, hkX'⟩ (mm_lt100 hkX)
  have hpl : (mm_e Γ).platform.magicAccessors = ({} : Platform).magicAccessors := by rw [X.admits.platform]
  have hfX : (mm_s Γ).vm.findClass CX = some ce.cls := by rw [z2]; exact hclX
  obtain ⟨vm2, y1, y2⟩ := x_find (e := mm_e Γ) (s0 := mm_s Γ) (f := F0 (mm_m Γ) pc ls rest) (a := E.2.2.1 + mm_n w1) (own := own) (C := CX) (CX := CX) (args := mm_a Γ) (cell := ce) (x := x_en x) (rest := rs.map x_en) hpl h.2.2.2.1 (by rw [z3]; rfl) hfX (hts _ hrow.1) hrow.2.1 hrow.2.2.1
    (fun c hc => by
      cases Option.some.inj (hc.symm.trans hfX)
      exact x_yes hx.1 hin hfX) (pre.map fun q => (x_en q.1, q.2)) ((U'.setTop (F0 (mm_m Γ) pc ls rest)).pushFrame (.throwing (E.2.2.1 + mm_n w1))) (fun q hq => by
      obtain ⟨r, hr, rfl⟩ := List.mem_map.mp hq
      obtain ⟨⟨p1, p2, p3, p4⟩, p5⟩ := hpre r hr
      exact ⟨hts _ p1, p2, p3, fun c hc => x_no hx.1 hin p4 p5 hfX hc⟩) (by rw [Stand.throwing_vm]; exact X'.warmed) (by rw [Stand.throwing_heap]; exact z1)
  have X2 := X'.noted y1
  obtain ⟨t2, t3, t4⟩ := kk ls U'.heap (locs ++ L) hl e2 (fun q h => by
    rcases List.mem_append.mp h with z | z
    · exact hq q z
    · exact e4 q z) (U'.setVm vm2) rfl X2
  refine ⟨t2, hstep₁ _ fun acts => ?_, t4⟩
  rw [doInvoke_state]
  refine hsteps.trans (x_caught (pc := x.2.2.1) (vm' := vm2) X'.here (fun Q E' d acts => ?_) t3)
  have hm1 : ((U'.setTop (F0 (mm_m Γ) pc ls rest)).pushFrame (.throwing (E.2.2.1 + mm_n w1))).vm.method? (mm_m Γ) = some (mm_me Γ) := by
    rw [Stand.throwing_vm, X'.warmed.alike.method?]; exact X'.method
  rw [W.findHandler_eq hm1 X'.code, htab, List.map_append, List.map_cons, List.map_map]
  have := y2 Q E' d acts
  rw [List.map_map] at this
  exact this
end XCC
section XCW
variable {E : mm_E} {Γ : mm_G} {cc : ByteArray} {nL pc : Nat} {own : String} {lev kc ks : Nat} {lv : List (Nat × Value)} {st : List Value} {w : mm_W} {f : mm_F} {ca sa : Nat}
variable {y : MethodName} {cy : ByteArray} {ny n idx lev' kc' ks' : Nat} {ret : Option FieldType} {As rest : List Value} {Post : Option Value → mm_W → mm_F → Prop} {hs : List (Nat × Nat × Nat × Nat)}
def nm_cw (y : MethodName) (cy : ByteArray) (ny : Nat) (ret : Option FieldType) (hs : List (Nat × Nat × Nat × Nat)) (n : Nat) : Prop := Cond.initialized y.cls ∈ nm_tb ∧ Cond.codeWith y cy ny ret hs ∈ nm_tb ∧ y.cls ≠ "java/lang/invoke/MethodHandle" ∧ y.cls ≠ "java/lang/invoke/VarHandle" ∧ (parseMethodDescriptor y.desc).map (fun d => d.parameters.length) = some n ∧ ny ≤ 18
/-- a static call of a method with handlers of its own -/
theorem mm_callW (h : mm_ok E Γ cc nL own lev kc ks) (hx : mm_oX E Γ) (hc : mm_CW E y cy ny ret hs lev' kc' ks' As w f Post) (hv : Cond.methodLink own idx y ∈ nm_tb) (hst2 : Cond.static y ∈ nm_tb) (hm : nm_cw y cy ny ret hs n) (hlev : lev' < lev) (hca : ca + kc' ≤ kc) (hsa : sa + ks' ≤ ks) (hn : As.length = n)
    (hst : st = As.reverse ++ rest) (hcat : (rest.map fun v => v.category).sum ≤ 8) (hd : decode cc pc = .ok (.invokestatic idx, 3))
    (kk : ∀ (r : Option Value) (w' : mm_W) (f' : mm_F), Post r w' f' → mm_go E Γ nL (pc + 3) lv (r.toList ++ rest) w' f' (ca + kc') (sa + ks')) : mm_go E Γ nL pc lv st w f ca sa := by
  obtain ⟨a1, a2, a3, a4, a5, a6⟩ := hm
  intro ls H locs hl hR hq T hT X
  have hts := h.2.2.2.2.1
  have hroom := h.2.2.2.2.2.2.2.2
  have r1 := h.2.2.2.2.2.2.1
  have r2 := h.2.2.2.2.2.2.2.1
  have hgd : ∀ x ∈ nm_tb, ∀ (a' : Array Value) (U : State), (mm_s Γ).WarmedH U.vm → x.before a' U = true := pay_in hts (fun x hx => ⟨hx, good_of_word (nm_good _ hx)⟩)
  have hK : Back E.1 (mm_rm Γ) (mm_p Γ) (mm_e Γ) (mm_bl Γ) (mm_s Γ) (mm_a Γ) y 3 8 (PreOf (mm_rm Γ) kc' ks' (mm_PX E As w f)) (PostOf (mm_Qc E Post) kc' ks' (fun q => E.2.2.1 < q)) := by
    refine Back.of_freeWith (handlers := hs) (S := headSpec (Cond.codeWith y cy ny ret hs :: nm_tb) (mm_room lev' kc' ks')) (P := mm_PX E As w f) (K := fun _ _ _ _ _ => True) (Q := fun a st o t => mm_Qc E Post a st o t ∧ ∃ L, FrameEnd st o t L kc' ks' ∧ ∀ q ∈ L, E.2.2.1 < q.base) (bytes := cy) (maxL := ny) (ret := ret)
      (E := fun a st o t L k n => k = kc' ∧ n = ks' ∧ ∀ q ∈ L, E.2.2.1 < q.base) hc (by show lev' + 1 ≤ _; omega) (by show 8 + (ny + 11) + 37 * lev' ≤ _; omega) ?_ ?_ (fun _ _ _ _ _ _ _ _ _ => trivial) ?_ ?_
    · intro m meth c A a X hp
      refine ⟨atoms_intro fun x hx => ?_, hgd _ a2 _ _ X.warmed, hgd _ a1 _ _ X.warmed, hp.1, hp.2.1⟩
      rcases List.mem_cons.mp hx with rfl | hx
      · exact hgd _ a2 _ _ X.warmed
      · exact hgd _ hx _ _ X.warmed
    · intro m meth c A a g mk X hp
      exact mm_blindX _ _ _ _ hp.2.2
    · intro a st o t ⟨hq, L, hF, hL⟩
      exact ⟨L, kc', ks', hF, rfl, rfl, hL⟩
    · intro m meth c A a g mk v t L k n X hp hq hF ⟨e1, e2, hL⟩
      subst e1; subst e2
      exact ⟨g, mk, t, L, rfl, rfl, hq.1, rfl, hL, rfl, rfl⟩
  obtain ⟨mk, methM, cM, hnamed, hmethM, -, -, -, -, -, -, hsigM⟩ := Cond.codeWith_spec (hts _ a2)
  have hstatic : methM.isStatic = true := Cond.static_spec hnamed hmethM (hts _ hst2)
  obtain ⟨kP, hkP, -⟩ := className_of_methodNamed hnamed
  have hinitP : kP.init = .initialized := Cond.initialized_spec (findClass_of_methodNamed hnamed) hkP (hts _ a1)
  obtain ⟨vm₁, X₁, hstep₁⟩ := X.invokestatic h.1 h.2.2.2.1 (hts _ hv) hnamed hmethM hstatic hkP hinitP ⟨a3, a4⟩ (g := F0 (mm_m Γ) pc ls st) rfl (argsL := As) (rest := rest) (by
      have z := a5
      rw [hsigM] at z
      rw [hn]; exact (Option.some.inj z).symm) hst (by rw [h.2.1]; exact hd)
  obtain ⟨v, B, X', ⟨g', mk', t, L, e1, e2, ⟨r, w', f', hr, hp, hR'⟩, e3, e4, e5, e6⟩, hsteps⟩ := hK (mm_m Γ) (mm_me Γ) (mm_c Γ) ⟨T.setVm vm₁, locs, ca, sa⟩ (F0 (mm_m Γ) pc ls rest) (.invokestatic idx) mk As.toArray X₁ rfl (hl.1.trans h.2.2.1.symm) (by rw [h.2.1]; exact hd) (lv_room hcat) (X₁.named hnamed)
    ⟨Nat.le_trans hca hroom.1, Nat.le_trans hsa hroom.2, ⟨rfl, mm_K.moved (U := T.setVm vm₁) X₁.warmed h.2.2.2.2.2.1, by show mm_R _ _ _ _ _ T.heap; rw [hT]; exact hR⟩, by
      obtain ⟨hX, ⟨w0, f0, hR0⟩, -⟩ := hx
      exact mm_X.moved (U := T.setVm vm₁) X₁.warmed hR0 (by show mm_R _ _ _ w f T.heap; rw [hT]; exact hR) hX⟩
  cases hr
  obtain ⟨U', l2, c2', s2'⟩ := B
  dsimp only [Pt.U, Pt.locs, Pt.cells, Pt.slots] at X' e1 e2 e3 e5 e6 hsteps
  subst e3; subst e5; subst e6
  obtain ⟨t2, t3, t4⟩ := kk v w' f' hp ls U'.heap (locs ++ L) hl (by rw [e1]; exact hR') (fun q h => by
    rcases List.mem_append.mp h with z | z
    · exact hq q z
    · exact e4 q z) U' rfl X'
  exact ⟨t2, hstep₁ _ fun acts => by rw [doInvoke_state]; exact hsteps.trans t3, t4⟩
end XCW
