/-! Throwing: the contract of a method that throws, and how a walk comes to it. -/
def x_end (s : State) (o : Outcome) (t : State) (L : List Loc) (k n : Nat) : Prop := (∃ x, o = .threw x) ∧ s.WarmedH t.vm ∧ s.sameButNew ({ t with vm := s.vm } : State) L k n
def mm_PX (E : mm_E) (as : List Value) (w : mm_W) (f : mm_F) : Array Value → State → Prop := fun v U => mm_Pc E as w f v U ∧ mm_X U
def mm_QX (E : mm_E) (k : Nat) (w : mm_W) (f : mm_F) : Outcome → State → Prop := fun o t => o = .threw (E.2.2.1 + mm_n w) ∧ mm_R E.2.1 E.2.2.1 E.2.2.2 (mm_new w k 0) (mm_f0 w f) t.heap
/-- it throws an exception of kind k out of memory w1, f1 -/
def mm_T (E : mm_E) (y : MethodName) (cc : ByteArray) (nL : Nat) (ret : Option FieldType) (lev kc ks : Nat) (as : List Value) (w : mm_W) (f : mm_F) (k : Nat) (w1 : mm_W) (f1 : mm_F) : Prop :=
  MetFree E.1 y (headSpec (mm_ws y cc nL ret) (mm_room lev kc ks)) (mm_PX E as w f) (fun _ _ _ _ _ => True) (fun _ st o t => mm_QX E k w1 f1 o t ∧ ∃ L, x_end st o t L kc ks ∧ ∀ q ∈ L, E.2.2.1 < q.base)
/-- the walk may end in a throw -/
def mm_eX (E : mm_E) (Γ : mm_G) (kc ks k : Nat) (w : mm_W) (f : mm_F) : Prop :=
  (∀ t : State, (∃ o, t.status = .running ∧ Ended t (mm_bl Γ) o ∧ mm_QX E k w f o t ∧ ∃ L, x_end (mm_s Γ) o t L kc ks ∧ ∀ q ∈ L, E.2.2.1 < q.base) → mm_q Γ t) ∧ (mm_me Γ).locks = false ∧ (mm_c Γ).exceptionTable.isEmpty = true
/-- what is known where exceptions are made or caught -/
def mm_oX (E : mm_E) (Γ : mm_G) : Prop := mm_X (mm_s Γ) ∧ (∃ w f, mm_R E.2.1 E.2.2.1 E.2.2.2 w f (mm_s Γ).heap) ∧ E.1.flags = flags0
theorem mm_startT {E : mm_E} {y : MethodName} {cc : ByteArray} {nL : Nat} {ret : Option FieldType} {own : String} {lev kc ks k : Nat} {as : List Value} {w w1 : mm_W} {f f1 : mm_F} (hfl : E.1.flags = flags0) (hy : plainName y.cls = true) (hown : y.cls = own) (hlen : (lg_sl as).length ≤ nL)
    (body : ∀ Γ : mm_G, mm_ok E Γ cc nL own lev kc ks → mm_oX E Γ → mm_eX E Γ kc ks k w1 f1 → mm_end E Γ ret kc ks (fun _ _ _ => False) y.name → mm_go E Γ nL 0 (lv_args 0 as) [] w f 0 0) : mm_T E y cc nL ret lev kc ks as w f k w1 f1 := by
  refine MetFree.of_bodyS (code := cc) (maxLocals := nL) (ret := ret) hy ?_ ?_
  · intro args s m h hn
    obtain ⟨meth, c, h1, h2, h3, h4, h5, h6, -, -⟩ := Cond.code_spec hn (atoms_spec (ws := mm_ws y cc nL ret) h _ List.mem_cons_self)
    exact ⟨meth, c, h1, h2, h3, h4, h5, h6⟩
  · intro p e s m args below meth c s₁ B hml hP _
    obtain ⟨⟨rfl, hK, hR⟩, hX⟩ := hP
    have hh0 : s₁.heap = s.heap := by rw [B.state]; rfl
    have hts := atoms_spec (ws := mm_ws y cc nL ret) B.pre
    have hfc : s.vm.findClass own = some m.cls := by rw [← hown]; exact findClass_of_methodNamed B.named
    have hg := body (p, e, (headSpec (mm_ws y cc nL ret) (mm_room lev kc ks)).room, s, m, as.toArray, below, meth, c, fun t => ∃ o, t.status = .running ∧ Ended t below o ∧ mm_QX E k w1 f1 o t ∧ ∃ L, x_end s o t L kc ks ∧ ∀ q ∈ L, E.2.2.1 < q.base)
      ⟨B.exec, B.bytes, hml, hfc, fun x hx => hts x (List.mem_cons_of_mem _ hx), hK, Nat.le_refl _, Nat.le_refl _, Nat.le_refl _, Nat.le_refl _⟩ ⟨hX, ⟨w, f, hR⟩, hfl⟩ ⟨fun _ z => z, B.notSynchronized, B.noHandlers (hts _ List.mem_cons_self)⟩ ⟨fun _ z => by obtain ⟨_, _, _, ⟨_, _, _, _, z, _⟩, _⟩ := z; exact z.elim, B.returns, B.notSynchronized, (name_of_methodNamed B.named B.method).1⟩
    obtain ⟨t, a1, o, b1, b2, b3⟩ := hg _ _ [] (lv_entry as hlen) hR (fun q h => by cases h) s₁ hh0 (Stand.of_body B)
    rw [lg_entry_eq]
    exact ⟨t, o, a1, b1, b2, b3⟩
/-- what the making of an exception of class C leans on -/
def x_cl (own C : String) (idx ic ix : Nat) (bx : ByteArray) : Prop := Bundle.fit C = true ∧ Cond.classLink own idx C ∈ nm_tb ∧ Cond.instantiable C 6 ∈ nm_tb ∧ Cond.initialized C ∈ nm_tb ∧ Cond.methodLink own ic (Bundle.initS C) ∈ nm_tb ∧ (∀ w ∈ Bundle.passSAtoms C "java/lang/RuntimeException" ix bx, x_w w) ∧ (∀ w ∈ x_own C, x_w w) ∧ decode bx 0 = .ok (.aload_n 0, 1) ∧ decode bx 1 = .ok (.aload_n 1, 1) ∧ decode bx 2 = .ok (.invokespecial ix, 3) ∧ decode bx 5 = .ok (.return_, 1)
theorem mm_throw {E : mm_E} {Γ : mm_G} {cc : ByteArray} {nL pc lev kc ks ca sa k idx ic ix si : Nat} {lv : List (Nat × Value)} {st : List Value} {w : mm_W} {f : mm_F} {C text : String} {bx : ByteArray} {q0 : vw_C} (h : mm_ok E Γ cc nL "PlannedTables" lev kc ks) (hx : mm_oX E Γ) (he : mm_eX E Γ kc ks k w f) (hlev : 6 ≤ lev) (hcl : x_cl "PlannedTables" C idx ic ix bx) (hq0 : nm_cl[k]? = some q0) (hqC : q0.1 = C) (hN : nm_N k = 0) (hstr : (si, text) ∈ xw_str)
    (hd0 : decode cc pc = .ok (.new idx, 3)) (hd1 : decode cc (pc + 3) = .ok (.dup, 1)) (hd2 : decode cc (pc + 4) = .ok (.ldc si, 2)) (hd3 : decode cc (pc + 6) = .ok (.invokespecial ic, 3)) (hd4 : decode cc (pc + 9) = .ok (.athrow, 1))
    (h0 : 0 < mm_n w) (hca : ca + 1 ≤ kc) (hsa : sa + 6 ≤ ks) (hcat : (st.map fun v => v.category).sum ≤ 8) : mm_go E Γ nL pc lv st w f ca sa := by
  intro ls H locs hl hR hq
  obtain ⟨x1, x2, x3, x4, x5, x6, x7, x8, x9, x10, x11⟩ := hcl
  obtain ⟨hX, ⟨w0, f0, hR0⟩, hfl⟩ := hx
  obtain ⟨hfin, hlk, hnh⟩ := he
  have hts := h.2.2.2.2.1
  have hKn := h.2.2.2.2.2.1.1 k _ hq0
  have hroom := h.2.2.2.2.2.2.2.2
  have r1 := h.2.2.2.2.2.2.1
  have r2 := h.2.2.2.2.2.2.2.1
  have hfC : (mm_s Γ).vm.findClass C = some (E.2.1.1 k) := by rw [← hqC]; exact hKn.2.1
  intro T0 hT0 X0
  have hsz : (mm_s Γ).heap.size ≤ E.2.2.1 + mm_n w := by
    have z : (mm_s Γ).heap.size ≤ T0.heap.size := X0.same.2.1
    rw [hT0, hR.1] at z; exact z
  refine (?_ : W (mm_p Γ) E.1 (mm_e Γ) (mm_rm Γ) (mm_s Γ) (mm_m Γ) (mm_a Γ) (mm_bl Γ) (mm_me Γ) (mm_c Γ) H locs ca sa (mm_q Γ) (F0 (mm_m Γ) pc ls st)) T0 hT0 X0
  refine W.newcK h.1 h.2.1 h.2.2.2.1 (hts _ x2) (hts _ x3) (hts _ x4) rfl hd0 (Nat.le_trans hca hroom.1) (Nat.le_trans hsa hroom.2) hfC hR.1 fun H1 kC hkC e1 z1 o1 => ?_
  refine lv_dup h.1 h.2.1 hd1 rfl ?_
  intro T hT X
  have hconst := hX.2.2.2.2 _ hstr
  obtain ⟨kk, cf, i, sa', -, -, -, -, -, hev⟩ := Cond.stringRef_spec h.2.2.2.1 hconst
  have ldc := X.ldcString h.1 (args := mm_a Γ) h.2.2.2.1 hconst hev (g := F0 (mm_m Γ) (pc + 3 + 1) ls (.ref (E.2.2.1 + mm_n w) :: .ref (E.2.2.1 + mm_n w) :: st)) rfl (by rw [h.2.1]; exact hd2)
  obtain ⟨U, ce, L, y1, y2, y3, y4, y5, y6, y7, y8, y9, y10, y11⟩ := x_throw X h.1 (Launch.traces_off hfl X.admits) h.2.2.2.1 x1 hts hX x5 x6 x7 x8 x9 x10 x11
    (fun x hx cell hc => by
      cases z : cell.vm.isStatics with
      | false => rfl
      | true =>
        have a1 := hR0.stat hc z
        have a2 := hq x hx
        omega) hfC hkC (by rw [hT]; exact e1) hsz (msg := .ref sa') rfl (g := F0 (mm_m Γ) (pc + 3 + 1 + 2) ls (.ref sa' :: .ref (E.2.2.1 + mm_n w) :: .ref (E.2.2.1 + mm_n w) :: st)) rfl (hl.1.trans h.2.2.1.symm) rfl rfl (rest := st) rfl (by rw [h.2.1]; exact hd3) (by rw [h.2.1]; exact hd4)
    (fun x hx => by
      have z := Array.isEmpty_iff.mp hnh
      rw [z] at hx; cases hx) (by omega) (by show 2 * 0 + (1 + (st.map fun v => v.category).sum) + 81 ≤ (mm_rm Γ).locals; omega) hlk
  refine ⟨U, ldc _ y1, hfin U ⟨_, y2, y3, ⟨rfl, ?_⟩, locs ++ L, ⟨⟨_, rfl⟩, y4, y5.weaken (fun y hy _ => hy) hca hsa⟩, fun q hq' => ?_⟩⟩
  · have hk : mm_k (mm_new w k 0) (mm_n w) = k := by simp [mm_k, mm_new, mm_n]
    refine hR.push (by rw [y7, hT, z1, hR.1]) (fun q hq' => ?_) h0 ⟨fun _ => ?_, fun hno => absurd (by rw [hk]; exact mm_lt100 hq0) hno⟩
    · rw [y8 q (Nat.ne_of_lt (by rw [← hR.1]; exact hq')), hT]
      exact o1 q (by rw [← hR.1]; exact hq')
    · rw [hk, hN]
      exact ⟨ce, y9, y10, y11, fun j hj => by omega⟩
  · rcases List.mem_append.mp hq' with z | z
    · exact hq q z
    · rw [y6 q z]; omega
