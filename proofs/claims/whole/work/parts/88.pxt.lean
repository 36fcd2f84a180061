/-! Throwing: an exception with a message is made and leaves the method; the heap beside its own cell stays. -/
section XT
variable {p : Program} {l : Launch} {e : Env} {R : Room} {s : State} {m : MethodId} {args : Array Value} {below : List Frame} {meth : Method} {c : Code} {T : State} {locs : List Loc} {cells slots : Nat}
theorem x_word {w : Cond} (h : x_w w) (hts : ∀ w ∈ nm_tb, w.before args s = true) (hX : mm_X s) : w.before args s = true := by
  rcases h with h | ⟨x, hx, rfl⟩ | ⟨q, hq, rfl⟩
  · exact hts w h
  · exact hX.1 x hx
  · exact (hX.2.2.2.1 q hq).1
theorem x_throw (X : Stand p l e R s m args below meth c T locs cells slots) (hexec : p.tables.exec = Jvm.exec) (htr : e.platform.stackTraces = false) {own C : String} {ic ix : Nat} {bx : ByteArray}
    (hown : s.vm.findClass own = some m.cls) (hfC : Bundle.fit C = true) (hts : ∀ w ∈ nm_tb, w.before args s = true) (hX : mm_X s) (hlink : Cond.methodLink own ic (Bundle.initS C) ∈ nm_tb)
    (hp : ∀ w ∈ Bundle.passSAtoms C "java/lang/RuntimeException" ix bx, x_w w) (ho : ∀ w ∈ x_own C, x_w w)
    (d0 : decode bx 0 = .ok (.aload_n 0, 1)) (d1 : decode bx 1 = .ok (.aload_n 1, 1)) (d2 : decode bx 2 = .ok (.invokespecial ix, 3)) (d5 : decode bx 5 = .ok (.return_, 1))
    (hlocs : ∀ x ∈ locs, ∀ cell, s.heap[x.base]? = some cell → cell.vm.isStatics = false)
    {a : Addr} {cX : ClassId} {kX : Class} (hfX : s.vm.findClass C = some cX) (hkX : s.vm.classes[cX]? = some kX) (hcell : T.heap[a]? = some (blank cX kX)) (hnew : s.heap.size ≤ a)
    {msg : Value} (hmsg : msg.isRef = true) {g : JFrame} (hg : g.method = m) (hsize : g.locals.size = c.maxLocals) (hlocked : g.locked = none) (hentered : g.entered = []) {rest : List Value} (hstack : g.stack = msg :: .ref a :: .ref a :: rest)
    (hd6 : decode c.code g.pc = .ok (.invokespecial ic, 3)) (hd9 : decode c.code (g.pc + 3) = .ok (.athrow, 1)) (hout : ∀ x ∈ c.exceptionTable.toList, covers x (g.pc + 3) = false)
    (hRf : 5 < R.frames) (hRl : 2 * g.monitorRoom + ((Value.ref a :: rest).map fun v => v.category).sum + 81 ≤ R.locals) (hlocks : meth.locks = false) :
    ∃ (U : State) (ce : Cell) (L : List Loc), Steps p.tables e below (T.setTop g) U ∧ U.status = .running ∧ Ended U below (.threw a) ∧ s.WarmedH U.vm ∧ s.sameButNew ({ U with vm := s.vm } : State) (locs ++ L) cells slots ∧ (∀ x ∈ L, x.base = a) ∧
      U.heap.size = T.heap.size ∧ (∀ q, q ≠ a → U.heap[q]? = T.heap[q]?) ∧ U.heap[a]? = some ce ∧ ce.cls = cX ∧ ce.vm = .none := by
  have w : ∀ x : Cond, x_w x → x.holds args s none s [] = true := fun x hx => x_word hx hts hX
  have wo : ∀ x ∈ x_own C, x.holds args s none s [] = true := fun x hx => w x (ho x hx)
  have wp : ∀ x ∈ Bundle.passSAtoms C "java/lang/RuntimeException" ix bx, x.holds args s none s [] = true := fun x hx => w x (hp x hx)
  have pl1 : e.platform.frameOwnsMonitors = true := by rw [X.admits.platform]
  have pl2 : e.platform.finalization = false := by rw [X.admits.platform]
  have pl3 : e.platform.magicAccessors = ({} : Platform).magicAccessors := by rw [X.admits.platform]
  obtain ⟨K, Z0, LK, -, Y⟩ := ThrowableC.of_atoms (args := args) pl1 pl2 pl3 (fun x hx => w x (x_thr x hx))
  obtain ⟨Z, M, LZ, LM, nZ⟩ := Init0T.ofS_atoms (args := args) pl3 LK Y (fun x hx => w x (x_thrS x hx))
  obtain ⟨Q1, Qs, lQ, LQ1, LQs, nQ1, kQ1, kQs⟩ := Bundle.chainS (args := args) pl3 nZ ["java/lang/Exception"] "java/lang/RuntimeException" (by decide +kernel) (by decide +kernel) (fun x hx => w x (x_chain x hx))
  obtain ⟨P1, LP1, nP1, sP1⟩ := PassC.ofS_atoms (args := args) pl3 (Bundle.fit_spec hfC).1 (by decide +kernel) d0 d1 d2 d5 (fun x hx => wp x hx)
  have eQ : P1.sup = Q1.m := Option.some.inj (sP1.symm.trans nQ1)
  have fP : s.vm.findClass C = some P1.m.cls := findClass_of_methodNamed nP1
  cases Option.some.inj (hfX.symm.trans fP)
  obtain ⟨c1, k1, f1, g1, ord, -, -, n6⟩ := Cond.instantiable_spec (wo (.instantiable C 6) (by simp [x_own]))
  cases Option.some.inj (f1.symm.trans fP)
  cases Option.some.inj (hkX.symm.trans g1)
  have sel : ∀ (y : MethodName) (t : MethodId), Cond.selects C y y ∈ x_own C → s.methodNamed? y = some t → (y.cls ≠ "java/lang/invoke/MethodHandle" ∧ y.cls ≠ "java/lang/invoke/VarHandle") → selectMethod e.platform s.vm P1.m.cls t = .method t := fun y t hy hn hne => by
    obtain ⟨c2, r2, m2, q1, q2, q3, q4, -⟩ := Cond.selects_spec (wo _ hy)
    cases Option.some.inj (q1.symm.trans fP)
    cases Option.some.inj (q2.symm.trans (State.methodFound?_of_named hn hne))
    cases Option.some.inj (q3.symm.trans hn)
    rw [Launch.admits_selectMethod X.admits]; exact q4
  have sel0 := sel Bundle.tFill0 K.fill0 (by simp [x_own]) Y.fill0 (by decide)
  have selF := sel Bundle.tFill K.fill (by simp [x_own]) Y.fill (by decide)
  obtain ⟨cS0, hS0, iS0⟩ := Y.statics
  obtain ⟨u0, hu0⟩ := Cond.staticRefV Y.unassigned LK.unassignedStatic LK.statics hS0 iS0 ((hX.2.2.2.1 ("UNASSIGNED_STACK", Bundle.steD) (by simp [xw_sta])).2)
  obtain ⟨sen, hsen⟩ := Cond.staticRefV Y.sentinel LK.sentinelStatic LK.statics hS0 iS0 ((hX.2.2.2.1 ("SUPPRESSED_SENTINEL", Bundle.listD) (by simp [xw_sta])).2)
  obtain ⟨ci, i1, fB, b1, b2, b3, b4, -, nB, tB, ffB⟩ := Cond.ownField (t := .object "java/lang/Object") Y.found LK.cls (by decide +kernel) (w _ (x_back (.fieldLink Bundle.tN 198 Bundle.tN "backtrace" "Ljava/lang/Object;") (by simp))) (w _ (x_back (.lays Bundle.tN Bundle.tN "backtrace" "Ljava/lang/Object;") (by simp))) e.platform pl3
  obtain ⟨cS, hcS, eS, -, keep⟩ := X.same.2.2.2.2.2 K.aS cS0 hS0
  have hcS' : T.heap[K.aS]? = some cS := hcS
  have off : ∀ i, (⟨K.aS, i⟩ : Loc) ∉ locs := fun i hm => by
    have z := hlocs _ hm cS0 hS0
    rw [iS0] at z; cases z
  have known : cS.vm ≠ .unknown := by
    rw [eS]; intro hu
    rw [show cS0.vm = .unknown from hu] at iS0
    cases iS0
  have apart : K.aS ≠ a := Nat.ne_of_lt (Nat.lt_of_lt_of_le (Array.getElem?_eq_some_iff.mp hS0).1 hnew)
  obtain ⟨iM, fM⟩ := Y.msg
  obtain ⟨tyC, dC, eC, nC⟩ := Cond.laysAt fP hkX Y.cause (wo _ (by simp [x_own]))
  obtain ⟨tyS, dS, eSt, nS⟩ := Cond.laysAt fP hkX Y.stack (wo _ (by simp [x_own]))
  obtain ⟨tyP, dP, eP, nP⟩ := Cond.laysAt fP hkX Y.supp (wo _ (by simp [x_own]))
  obtain ⟨tyM, dM, eM, nM⟩ := Cond.laysAt fP hkX fM (wo _ (by simp [x_own]))
  obtain ⟨tyB, dB, eB, nB'⟩ := Cond.laysAt fP hkX ffB (wo _ (by simp [x_own]))
  have bC := Cond.laysApart eB eC nB' nC (by rw [nB, Y.causeName]; decide)
  have bS := Cond.laysApart eB eSt nB' nS (by rw [nB, Y.stackName]; decide)
  have bP := Cond.laysApart eB eP nB' nP (by rw [nB, Y.suppName]; decide)
  have skip : SkipFacts K e.platform s (fun u => u) u0 ((preparedCellV K.toThrowableT (freshCell P1.m.cls kX) a u0 sen).withEntry T.cur) :=
    ⟨{ ci198 := ci, i198 := i1, fBack := fB }, ⟨b1, b2, b3, b4⟩, by
      have := fresh_default (c := P1.m.cls) tyB
      rw [tB] at this
      simpa [preparedCellV, Cell.setSlot, Cell.withEntry, Array.getElem?_setIfInBounds, bC, bS, bP, bC.symm, bS.symm, bP.symm, defaultValue] using this, fun _ _ => rfl⟩
  obtain ⟨tm, mC, cdC, kC, vm1, nTm, -, -, -, -, -, -, -, W1, st1⟩ := Steps.initColdS (tb := p.tables) (e := e) (below := below) (s := s) (U := T) X.here hexec X.warmed pl3 hown (t := Bundle.initS C) rfl rfl (Bundle.fit_spec hfC).2
    (hts _ hlink) (wp (.instanceMethod (Bundle.initS C)) (by simp [Bundle.passSAtoms])) (bytes := bx) (maxL := 2) (wp (.code (Bundle.initS C) bx 2 none) (by simp [Bundle.passSAtoms]))
    (f := g) hg (a := a) (msg := msg) (rest := .ref a :: rest) hstack hd6
  cases Option.some.inj (nTm.symm.trans nP1)
  have X1 := X.noted W1
  have lPs : (P1 :: Q1 :: Qs).length = 3 := by simp only [List.length_cons, lQ]; rfl
  obtain ⟨vm2, X2, st2⟩ := X1.ctorMessageOffV hexec (g := { g with stack := .ref a :: rest }) hg hsize K LK Z LZ M LM (P1 :: Q1 :: Qs)
    (fun P hP => by
      rcases List.mem_cons.mp hP with rfl | hP
      · exact LP1
      · rcases List.mem_cons.mp hP with rfl | hP
        · exact LQ1
        · exact LQs P hP) ⟨eQ, kQ1, kQs⟩ (u0 := u0) (sen := sen) (self := a) hmsg (cell := freshCell P1.m.cls kX) (cellS := cS)
    hcell (fun _ => by simp) (by simp) rfl rfl sel0 selF hcS' apart known (by rw [keep _ (off _)]; exact hu0) (by rw [keep _ (off _)]; exact hsen)
    (Takes.of_laid hkX ord tyC (by rw [Y.causeType]; rfl)) (Takes.of_laid hkX ord tyS (by rw [Y.stackType]; exact fits_refV_array _ u0)) (Takes.of_laid hkX ord tyP (by rw [Y.suppType]; exact fits_refV_object _ sen))
    (Takes.of_laid hkX ord tyM (by rw [Y.msgType]; exact fits_refV_object _ ⟨msg, hmsg⟩)) Y.objLocals skip htr [] hd6 (by rw [lPs]; exact hRf) (by rw [lPs]; exact hRl)
  obtain ⟨walk, run, ended, WU, same⟩ := X2.athrowLeaves hexec (g := { g with stack := .ref a :: rest, pc := g.pc + 3 }) hg hlocked hentered hout (a := a) (rest := rest) rfl hd9 hlocks
  have hlt : a < ((T.setVm vm1).setVm vm2).heap.size := (Array.getElem?_eq_some_iff.mp hcell).1
  refine ⟨_, plainBareV K.toThrowableT (freshCell P1.m.cls kX) a u0 sen msg, _, st1 _ (fun acts => ?_), run, ended, WU, same, fun x hx => ?_, ?_, fun q hq => ?_, heapAt_setCell_self (s := (T.setVm vm1).setVm vm2) _ hlt, rfl, rfl⟩
  · rw [doInvoke_state]
    exact st2 _ walk
  · simp only [List.mem_cons, List.not_mem_nil, or_false] at hx
    rcases hx with rfl | rfl | rfl | rfl | rfl <;> rfl
  · show (T.heap.setIfInBounds a _).size = T.heap.size
    simp
  · exact heapAt_setCell_ne (s := (T.setVm vm1).setVm vm2) _ (Ne.symm hq)
end XT
