/-! Throwing: what is known of exceptions beside the good words. -/
def xw_dec : List MethodName := [Bundle.initS "java/lang/RuntimeException", Bundle.initS "java/lang/Exception", Bundle.initS Bundle.tN]
def xw_cls : List String := ["java/lang/IllegalArgumentException", "java/lang/UnsupportedOperationException", "java/lang/IndexOutOfBoundsException", "java/lang/IllegalStateException", "java/util/NoSuchElementException"]
def xw_str : List (Nat × String) := [(36, "a table has 1 to 4 columns"), (47, "there are 4 tables"), (69, "no such table or column"), (76, "no such table"), (83, "the table has a row with this key"), (90, "there are 48 rows"), (101, "no row with this key"), (116, "no key from there on"), (137, "the plan has a fault, or fuel is below 0"), (147, "more visits than fuel"), (149, "the output would be longer than 64 cells")]
def xw_sta : List (String × String) := [("UNASSIGNED_STACK", Bundle.steD), ("SUPPRESSED_SENTINEL", Bundle.listD)]
def mm_X (U : State) : Prop := (∀ x ∈ xw_dec, (Cond.declares x).before #[] U = true) ∧ (∀ C ∈ xw_cls, (Cond.castable C C).before #[] U = true) ∧ (∀ C ∈ xw_cls, ∀ C' ∈ xw_cls, C ≠ C' → (Cond.not (Cond.castable C C')).before #[] U = true) ∧ (∀ q ∈ xw_sta, (Cond.laysStatic Bundle.tN q.1 q.2).before #[] U = true ∧ (Cond.isRef (.static Bundle.tN q.1 q.2)).before #[] U = true) ∧ ∀ q ∈ xw_str, (Cond.stringRef "PlannedTables" q.1 q.2).before #[] U = true
theorem x_dec {s U : State} {a a' : Array Value} {x : MethodName} (hW : s.WarmedH U.vm) (h : (Cond.declares x).before a s = true) : (Cond.declares x).before a' U = true :=
  Cond.before_shiftedFace (State.Shifted.of_warmed hW) _ rfl h
theorem x_cast {s U : State} {a a' : Array Value} {x y : String} (hW : s.WarmedH U.vm) (h : (Cond.castable x y).before a s = true) : (Cond.castable x y).before a' U = true :=
  Cond.before_shiftedFace (State.Shifted.of_warmed hW) _ rfl h
theorem x_not {s U : State} {a a' : Array Value} {x y : String} (hW : s.WarmedH U.vm) (h : (Cond.not (Cond.castable x y)).before a s = true) : (Cond.not (Cond.castable x y)).before a' U = true := by
  have hal := hW.alike
  simp only [Cond.before, Cond.holds, Cond.value] at h ⊢
  rw [hal.findClass, hal.findClass]
  simp only [hal.assignable]
  exact h
theorem x_lay {s U : State} {a a' : Array Value} {C n d : String} (hW : s.WarmedH U.vm) (hh : ∀ (q : Nat) (c : Cell), s.heap[q]? = some c → c.vm.isStatics = true → U.heap[q]? = some c) (h : (Cond.laysStatic C n d).before a s = true) : (Cond.laysStatic C n d).before a' U = true := by
  have h1 : (Cond.laysStatic C n d).before a (s.setVm U.vm) = true := Cond.before_shiftedFace (State.Shifted.of_warmed hW) _ rfl h
  have e2 : (s.setVm U.vm).fieldFound? C n d = U.fieldFound? C n d := rfl
  have e3 : (s.setVm U.vm).vm.findClass C = U.vm.findClass C := rfl
  have e4 : (s.setVm U.vm).heap = s.heap := rfl
  simp only [Cond.before, Cond.holds, Cond.value] at h1 ⊢
  rw [e2, e3, e4] at h1
  cases hc : U.vm.findClass C with
  | none => simp [hc] at h1
  | some c =>
    cases hf : U.fieldFound? C n d with
    | none => simp [hc, hf] at h1
    | some r =>
      obtain ⟨c', k, i, f⟩ := r
      simp only [hc, hf] at h1 ⊢
      cases hk : k.statics with
      | none => simp [hk] at h1
      | some q =>
        simp only [hk, Option.bind_some] at h1 ⊢
        cases hq : s.heap[q]? with
        | none => simp [hq] at h1
        | some cell =>
          simp only [hq, Option.map_some] at h1
          have hs : cell.vm.isStatics = true := by
            simp at h1
            exact h1.1.1.1.2
          rw [hh q cell hq hs, Option.map_some]
          exact h1
theorem x_ref {s U : State} {a a' : Array Value} {C n d : String} (hW : s.WarmedH U.vm) (hh : ∀ (q : Nat) (c : Cell), s.heap[q]? = some c → c.vm.isStatics = true → U.heap[q]? = some c) (h : (Cond.isRef (.static C n d)).before a s = true) : (Cond.isRef (.static C n d)).before a' U = true := by
  have h1 : (Cond.isRef (.static C n d)).before a (s.setVm U.vm) = true := Cond.before_shiftedFace (State.Shifted.of_warmed hW) _ rfl h
  have e2 : (s.setVm U.vm).fieldNamed? C n d true = U.fieldNamed? C n d true := rfl
  have e4 : (s.setVm U.vm).heap = s.heap := rfl
  simp only [Cond.before, Cond.holds, Cond.value, Term.eval] at h1 ⊢
  rw [e2, e4] at h1
  cases hf : U.fieldNamed? C n d true with
  | none => simp [hf] at h1
  | some r =>
    obtain ⟨c', k, i⟩ := r
    simp only [hf] at h1 ⊢
    cases hk : k.statics with
    | none => simp [hk] at h1
    | some q =>
      cases hq : s.heap[q]? with
      | none => simp [hk, hq] at h1
      | some cell =>
        by_cases hs : cell.vm.isStatics = true
        · simp [hk, hq, hs] at h1
          simp [hk, hh q cell hq hs, hs, h1]
        · simp [hk, hq, hs] at h1
theorem x_str {s U : State} {a a' : Array Value} {C t : String} {i : Nat} (hW : s.WarmedH U.vm) (h : (Cond.stringRef C i t).before a s = true) : (Cond.stringRef C i t).before a' U = true := Cond.stringRef_warmed hW h
theorem mm_R.stat {D : va_G} {b : Nat} {G : Nat → Option Cell} {w : mm_W} {f : mm_F} {H : Heap} {q : Nat} {c : Cell} (h : mm_R D b G w f H) (hq : H[q]? = some c) (hs : c.vm.isStatics = true) : q ≤ b := by
  apply Classical.byContradiction
  intro z
  have hlt := (Array.getElem?_eq_some_iff.mp hq).1
  rw [h.1] at hlt
  obtain ⟨c1, c2⟩ := h.2.2 (q - b) (by omega) (by omega)
  rw [show b + (q - b) = q by omega] at c1 c2
  by_cases k : mm_k w (q - b) < 100
  · obtain ⟨cell, e1, e2, e3, -⟩ := c1 k
    rw [hq] at e1
    cases e1
    rw [e3] at hs; cases hs
  · have e1 := c2 k
    rw [hq] at e1
    cases e1
    cases hs
theorem mm_X.moved {D : va_G} {b : Nat} {G : Nat → Option Cell} {w w' : mm_W} {f f' : mm_F} {s U : State} (hW : s.WarmedH U.vm) (h1 : mm_R D b G w f s.heap) (h2 : mm_R D b G w' f' U.heap) (h : mm_X s) : mm_X U := by
  have hh : ∀ (q : Nat) (c : Cell), s.heap[q]? = some c → c.vm.isStatics = true → U.heap[q]? = some c := fun q c hq hs => by
    have := h1.stat hq hs
    rw [h2.2.1 q this, ← h1.2.1 q this]; exact hq
  exact ⟨fun x hx => x_dec hW (h.1 x hx), fun C hC => x_cast hW (h.2.1 C hC), fun C hC C' hC' hne => x_not hW (h.2.2.1 C hC C' hC' hne), fun q hq => ⟨x_lay hW hh (h.2.2.2.1 q hq).1, x_ref hW hh (h.2.2.2.1 q hq).2⟩, fun q hq => x_str hW (h.2.2.2.2 q hq)⟩
/-- a good word, or one of mm_X -/
def x_w (w : Cond) : Prop := w ∈ nm_tb ∨ (∃ x ∈ xw_dec, w = .declares x) ∨ (∃ q ∈ xw_sta, w = .laysStatic Bundle.tN q.1 q.2)
def x_own (C : String) : List Cond := [.instantiable C 6, .selects C Bundle.tFill0 Bundle.tFill0, .selects C Bundle.tFill Bundle.tFill, .lays C Bundle.tN "cause" "Ljava/lang/Throwable;", .lays C Bundle.tN "stackTrace" Bundle.steD, .lays C Bundle.tN "suppressedExceptions" Bundle.listD, .lays C Bundle.tN "detailMessage" "Ljava/lang/String;", .lays C Bundle.tN "backtrace" "Ljava/lang/Object;"]
theorem x_thr : ∀ w ∈ Bundle.throwableAtoms, x_w w := List.forall_mem_cons.mpr ⟨Or.inl (nm_in (List.mem_of_getElem? (i := 8) (by decide +kernel)) (by decide +kernel)), List.forall_mem_cons.mpr ⟨Or.inl (nm_in (List.mem_of_getElem? (i := 305) (by decide +kernel)) (by decide +kernel)), List.forall_mem_cons.mpr ⟨Or.inl (nm_in (List.mem_of_getElem? (i := 314) (by decide +kernel)) (by decide +kernel)), List.forall_mem_cons.mpr ⟨Or.inl (nm_in (List.mem_of_getElem? (i := 320) (by decide +kernel)) (by decide +kernel)), List.forall_mem_cons.mpr ⟨Or.inl (nm_in (List.mem_of_getElem? (i := 323) (by decide +kernel)) (by decide +kernel)), List.forall_mem_cons.mpr ⟨Or.inl (nm_in (List.mem_of_getElem? (i := 325) (by decide +kernel)) (by decide +kernel)), List.forall_mem_cons.mpr ⟨Or.inl (nm_in (List.mem_of_getElem? (i := 306) (by decide +kernel)) (by decide +kernel)), List.forall_mem_cons.mpr ⟨Or.inl (nm_in (List.mem_of_getElem? (i := 307) (by decide +kernel)) (by decide +kernel)), List.forall_mem_cons.mpr ⟨Or.inl (nm_in (List.mem_of_getElem? (i := 23) (by decide +kernel)) (by decide +kernel)), List.forall_mem_cons.mpr ⟨Or.inl (nm_in (List.mem_of_getElem? (i := 24) (by decide +kernel)) (by decide +kernel)), List.forall_mem_cons.mpr ⟨Or.inl (nm_in (List.mem_of_getElem? (i := 308) (by decide +kernel)) (by decide +kernel)), List.forall_mem_cons.mpr ⟨Or.inl (nm_in (List.mem_of_getElem? (i := 313) (by decide +kernel)) (by decide +kernel)), List.forall_mem_cons.mpr ⟨Or.inl (nm_in (List.mem_of_getElem? (i := 321) (by decide +kernel)) (by decide +kernel)), List.forall_mem_cons.mpr ⟨Or.inl (nm_in (List.mem_of_getElem? (i := 341) (by decide +kernel)) (by decide +kernel)), List.forall_mem_cons.mpr ⟨Or.inl (nm_in (List.mem_of_getElem? (i := 295) (by decide +kernel)) (by decide +kernel)), List.forall_mem_cons.mpr ⟨Or.inl (nm_in (List.mem_of_getElem? (i := 342) (by decide +kernel)) (by decide +kernel)), List.forall_mem_cons.mpr ⟨Or.inl (nm_in (List.mem_of_getElem? (i := 297) (by decide +kernel)) (by decide +kernel)), List.forall_mem_cons.mpr ⟨Or.inl (nm_in (List.mem_of_getElem? (i := 343) (by decide +kernel)) (by decide +kernel)), List.forall_mem_cons.mpr ⟨Or.inl (nm_in (List.mem_of_getElem? (i := 299) (by decide +kernel)) (by decide +kernel)), List.forall_mem_cons.mpr ⟨Or.inl (nm_in (List.mem_of_getElem? (i := 309) (by decide +kernel)) (by decide +kernel)), List.forall_mem_cons.mpr ⟨Or.inr (Or.inr ⟨("UNASSIGNED_STACK", Bundle.steD), by simp [xw_sta], rfl⟩), List.forall_mem_cons.mpr ⟨Or.inl (nm_in (List.mem_of_getElem? (i := 311) (by decide +kernel)) (by decide +kernel)), List.forall_mem_cons.mpr ⟨Or.inr (Or.inr ⟨("SUPPRESSED_SENTINEL", Bundle.listD), by simp [xw_sta], rfl⟩), List.forall_mem_cons.mpr ⟨Or.inl (nm_in (List.mem_of_getElem? (i := 301) (by decide +kernel)) (by decide +kernel)), fun _ h => absurd h List.not_mem_nil⟩⟩⟩⟩⟩⟩⟩⟩⟩⟩⟩⟩⟩⟩⟩⟩⟩⟩⟩⟩⟩⟩⟩⟩
theorem x_thrS : ∀ w ∈ Bundle.throwableSAtoms, x_w w := List.forall_mem_cons.mpr ⟨Or.inl (nm_in (List.mem_of_getElem? (i := 337) (by decide +kernel)) (by decide +kernel)), List.forall_mem_cons.mpr ⟨Or.inl (nm_in (List.mem_of_getElem? (i := 338) (by decide +kernel)) (by decide +kernel)), List.forall_mem_cons.mpr ⟨Or.inl (nm_in (List.mem_of_getElem? (i := 340) (by decide +kernel)) (by decide +kernel)), List.forall_mem_cons.mpr ⟨Or.inl (nm_in (List.mem_of_getElem? (i := 301) (by decide +kernel)) (by decide +kernel)), fun _ h => absurd h List.not_mem_nil⟩⟩⟩⟩
theorem x_chain : ∀ w ∈ Bundle.chainSAtoms "java/lang/RuntimeException" ["java/lang/Exception"], x_w w := List.forall_mem_cons.mpr ⟨Or.inl (nm_in (List.mem_of_getElem? (i := 331) (by decide +kernel)) (by decide +kernel)), List.forall_mem_cons.mpr ⟨Or.inl (nm_in (List.mem_of_getElem? (i := 332) (by decide +kernel)) (by decide +kernel)), List.forall_mem_cons.mpr ⟨Or.inl (nm_in (List.mem_of_getElem? (i := 333) (by decide +kernel)) (by decide +kernel)), List.forall_mem_cons.mpr ⟨Or.inl (nm_in (List.mem_of_getElem? (i := 334) (by decide +kernel)) (by decide +kernel)), List.forall_mem_cons.mpr ⟨Or.inr (Or.inl ⟨_, by simp [xw_dec], rfl⟩), List.forall_mem_cons.mpr ⟨Or.inl (nm_in (List.mem_of_getElem? (i := 334) (by decide +kernel)) (by decide +kernel)), List.forall_mem_cons.mpr ⟨Or.inl (nm_in (List.mem_of_getElem? (i := 335) (by decide +kernel)) (by decide +kernel)), List.forall_mem_cons.mpr ⟨Or.inl (nm_in (List.mem_of_getElem? (i := 336) (by decide +kernel)) (by decide +kernel)), List.forall_mem_cons.mpr ⟨Or.inl (nm_in (List.mem_of_getElem? (i := 337) (by decide +kernel)) (by decide +kernel)), List.forall_mem_cons.mpr ⟨Or.inr (Or.inl ⟨_, by simp [xw_dec], rfl⟩), fun _ h => absurd h List.not_mem_nil⟩⟩⟩⟩⟩⟩⟩⟩⟩⟩
theorem x_back : ∀ w ∈ ([.fieldLink Bundle.tN 198 Bundle.tN "backtrace" "Ljava/lang/Object;", .lays Bundle.tN Bundle.tN "backtrace" "Ljava/lang/Object;"] : List Cond), x_w w := List.forall_mem_cons.mpr ⟨Or.inl (nm_in (List.mem_of_getElem? (i := 304) (by decide +kernel)) (by decide +kernel)), List.forall_mem_cons.mpr ⟨Or.inl (nm_in (List.mem_of_getElem? (i := 303) (by decide +kernel)) (by decide +kernel)), fun _ h => absurd h List.not_mem_nil⟩⟩
theorem x_pass_IA : ∀ w ∈ Bundle.passSAtoms "java/lang/IllegalArgumentException" "java/lang/RuntimeException" 7 Bundle.six, x_w w := List.forall_mem_cons.mpr ⟨Or.inl (nm_in (List.mem_of_getElem? (i := 328) (by decide +kernel)) (by decide +kernel)), List.forall_mem_cons.mpr ⟨Or.inl (nm_in (List.mem_of_getElem? (i := 329) (by decide +kernel)) (by decide +kernel)), List.forall_mem_cons.mpr ⟨Or.inl (nm_in (List.mem_of_getElem? (i := 330) (by decide +kernel)) (by decide +kernel)), List.forall_mem_cons.mpr ⟨Or.inl (nm_in (List.mem_of_getElem? (i := 331) (by decide +kernel)) (by decide +kernel)), List.forall_mem_cons.mpr ⟨Or.inr (Or.inl ⟨_, by simp [xw_dec], rfl⟩), fun _ h => absurd h List.not_mem_nil⟩⟩⟩⟩⟩
theorem x_own_IA : ∀ w ∈ x_own "java/lang/IllegalArgumentException", x_w w := List.forall_mem_cons.mpr ⟨Or.inl (nm_in (List.mem_of_getElem? (i := 284) (by decide +kernel)) (by decide +kernel)), List.forall_mem_cons.mpr ⟨Or.inl (nm_in (List.mem_of_getElem? (i := 292) (by decide +kernel)) (by decide +kernel)), List.forall_mem_cons.mpr ⟨Or.inl (nm_in (List.mem_of_getElem? (i := 293) (by decide +kernel)) (by decide +kernel)), List.forall_mem_cons.mpr ⟨Or.inl (nm_in (List.mem_of_getElem? (i := 294) (by decide +kernel)) (by decide +kernel)), List.forall_mem_cons.mpr ⟨Or.inl (nm_in (List.mem_of_getElem? (i := 296) (by decide +kernel)) (by decide +kernel)), List.forall_mem_cons.mpr ⟨Or.inl (nm_in (List.mem_of_getElem? (i := 298) (by decide +kernel)) (by decide +kernel)), List.forall_mem_cons.mpr ⟨Or.inl (nm_in (List.mem_of_getElem? (i := 300) (by decide +kernel)) (by decide +kernel)), List.forall_mem_cons.mpr ⟨Or.inl (nm_in (List.mem_of_getElem? (i := 302) (by decide +kernel)) (by decide +kernel)), fun _ h => absurd h List.not_mem_nil⟩⟩⟩⟩⟩⟩⟩⟩
theorem x_pass_UO : ∀ w ∈ Bundle.passSAtoms "java/lang/UnsupportedOperationException" "java/lang/RuntimeException" 7 Bundle.six, x_w w := List.forall_mem_cons.mpr ⟨Or.inl (nm_in (List.mem_of_getElem? (i := 364) (by decide +kernel)) (by decide +kernel)), List.forall_mem_cons.mpr ⟨Or.inl (nm_in (List.mem_of_getElem? (i := 365) (by decide +kernel)) (by decide +kernel)), List.forall_mem_cons.mpr ⟨Or.inl (nm_in (List.mem_of_getElem? (i := 366) (by decide +kernel)) (by decide +kernel)), List.forall_mem_cons.mpr ⟨Or.inl (nm_in (List.mem_of_getElem? (i := 331) (by decide +kernel)) (by decide +kernel)), List.forall_mem_cons.mpr ⟨Or.inr (Or.inl ⟨_, by simp [xw_dec], rfl⟩), fun _ h => absurd h List.not_mem_nil⟩⟩⟩⟩⟩
theorem x_own_UO : ∀ w ∈ x_own "java/lang/UnsupportedOperationException", x_w w := List.forall_mem_cons.mpr ⟨Or.inl (nm_in (List.mem_of_getElem? (i := 354) (by decide +kernel)) (by decide +kernel)), List.forall_mem_cons.mpr ⟨Or.inl (nm_in (List.mem_of_getElem? (i := 356) (by decide +kernel)) (by decide +kernel)), List.forall_mem_cons.mpr ⟨Or.inl (nm_in (List.mem_of_getElem? (i := 318) (by decide +kernel)) (by decide +kernel)), List.forall_mem_cons.mpr ⟨Or.inl (nm_in (List.mem_of_getElem? (i := 357) (by decide +kernel)) (by decide +kernel)), List.forall_mem_cons.mpr ⟨Or.inl (nm_in (List.mem_of_getElem? (i := 358) (by decide +kernel)) (by decide +kernel)), List.forall_mem_cons.mpr ⟨Or.inl (nm_in (List.mem_of_getElem? (i := 359) (by decide +kernel)) (by decide +kernel)), List.forall_mem_cons.mpr ⟨Or.inl (nm_in (List.mem_of_getElem? (i := 360) (by decide +kernel)) (by decide +kernel)), List.forall_mem_cons.mpr ⟨Or.inl (nm_in (List.mem_of_getElem? (i := 361) (by decide +kernel)) (by decide +kernel)), fun _ h => absurd h List.not_mem_nil⟩⟩⟩⟩⟩⟩⟩⟩
theorem x_pass_IO : ∀ w ∈ Bundle.passSAtoms "java/lang/IndexOutOfBoundsException" "java/lang/RuntimeException" 7 Bundle.six, x_w w := List.forall_mem_cons.mpr ⟨Or.inl (nm_in (List.mem_of_getElem? (i := 396) (by decide +kernel)) (by decide +kernel)), List.forall_mem_cons.mpr ⟨Or.inl (nm_in (List.mem_of_getElem? (i := 397) (by decide +kernel)) (by decide +kernel)), List.forall_mem_cons.mpr ⟨Or.inl (nm_in (List.mem_of_getElem? (i := 398) (by decide +kernel)) (by decide +kernel)), List.forall_mem_cons.mpr ⟨Or.inl (nm_in (List.mem_of_getElem? (i := 331) (by decide +kernel)) (by decide +kernel)), List.forall_mem_cons.mpr ⟨Or.inr (Or.inl ⟨_, by simp [xw_dec], rfl⟩), fun _ h => absurd h List.not_mem_nil⟩⟩⟩⟩⟩
theorem x_own_IO : ∀ w ∈ x_own "java/lang/IndexOutOfBoundsException", x_w w := List.forall_mem_cons.mpr ⟨Or.inl (nm_in (List.mem_of_getElem? (i := 386) (by decide +kernel)) (by decide +kernel)), List.forall_mem_cons.mpr ⟨Or.inl (nm_in (List.mem_of_getElem? (i := 388) (by decide +kernel)) (by decide +kernel)), List.forall_mem_cons.mpr ⟨Or.inl (nm_in (List.mem_of_getElem? (i := 317) (by decide +kernel)) (by decide +kernel)), List.forall_mem_cons.mpr ⟨Or.inl (nm_in (List.mem_of_getElem? (i := 389) (by decide +kernel)) (by decide +kernel)), List.forall_mem_cons.mpr ⟨Or.inl (nm_in (List.mem_of_getElem? (i := 390) (by decide +kernel)) (by decide +kernel)), List.forall_mem_cons.mpr ⟨Or.inl (nm_in (List.mem_of_getElem? (i := 391) (by decide +kernel)) (by decide +kernel)), List.forall_mem_cons.mpr ⟨Or.inl (nm_in (List.mem_of_getElem? (i := 392) (by decide +kernel)) (by decide +kernel)), List.forall_mem_cons.mpr ⟨Or.inl (nm_in (List.mem_of_getElem? (i := 393) (by decide +kernel)) (by decide +kernel)), fun _ h => absurd h List.not_mem_nil⟩⟩⟩⟩⟩⟩⟩⟩
theorem x_pass_IS : ∀ w ∈ Bundle.passSAtoms "java/lang/IllegalStateException" "java/lang/RuntimeException" 7 Bundle.six, x_w w := List.forall_mem_cons.mpr ⟨Or.inl (nm_in (List.mem_of_getElem? (i := 433) (by decide +kernel)) (by decide +kernel)), List.forall_mem_cons.mpr ⟨Or.inl (nm_in (List.mem_of_getElem? (i := 434) (by decide +kernel)) (by decide +kernel)), List.forall_mem_cons.mpr ⟨Or.inl (nm_in (List.mem_of_getElem? (i := 435) (by decide +kernel)) (by decide +kernel)), List.forall_mem_cons.mpr ⟨Or.inl (nm_in (List.mem_of_getElem? (i := 331) (by decide +kernel)) (by decide +kernel)), List.forall_mem_cons.mpr ⟨Or.inr (Or.inl ⟨_, by simp [xw_dec], rfl⟩), fun _ h => absurd h List.not_mem_nil⟩⟩⟩⟩⟩
theorem x_own_IS : ∀ w ∈ x_own "java/lang/IllegalStateException", x_w w := List.forall_mem_cons.mpr ⟨Or.inl (nm_in (List.mem_of_getElem? (i := 423) (by decide +kernel)) (by decide +kernel)), List.forall_mem_cons.mpr ⟨Or.inl (nm_in (List.mem_of_getElem? (i := 425) (by decide +kernel)) (by decide +kernel)), List.forall_mem_cons.mpr ⟨Or.inl (nm_in (List.mem_of_getElem? (i := 316) (by decide +kernel)) (by decide +kernel)), List.forall_mem_cons.mpr ⟨Or.inl (nm_in (List.mem_of_getElem? (i := 426) (by decide +kernel)) (by decide +kernel)), List.forall_mem_cons.mpr ⟨Or.inl (nm_in (List.mem_of_getElem? (i := 427) (by decide +kernel)) (by decide +kernel)), List.forall_mem_cons.mpr ⟨Or.inl (nm_in (List.mem_of_getElem? (i := 428) (by decide +kernel)) (by decide +kernel)), List.forall_mem_cons.mpr ⟨Or.inl (nm_in (List.mem_of_getElem? (i := 429) (by decide +kernel)) (by decide +kernel)), List.forall_mem_cons.mpr ⟨Or.inl (nm_in (List.mem_of_getElem? (i := 430) (by decide +kernel)) (by decide +kernel)), fun _ h => absurd h List.not_mem_nil⟩⟩⟩⟩⟩⟩⟩⟩
theorem x_pass_NS : ∀ w ∈ Bundle.passSAtoms "java/util/NoSuchElementException" "java/lang/RuntimeException" 13 prog_18_method_4_code, x_w w := List.forall_mem_cons.mpr ⟨Or.inl (nm_in (List.mem_of_getElem? (i := 474) (by decide +kernel)) (by decide +kernel)), List.forall_mem_cons.mpr ⟨Or.inl (nm_in (List.mem_of_getElem? (i := 475) (by decide +kernel)) (by decide +kernel)), List.forall_mem_cons.mpr ⟨Or.inl (nm_in (List.mem_of_getElem? (i := 476) (by decide +kernel)) (by decide +kernel)), List.forall_mem_cons.mpr ⟨Or.inl (nm_in (List.mem_of_getElem? (i := 331) (by decide +kernel)) (by decide +kernel)), List.forall_mem_cons.mpr ⟨Or.inr (Or.inl ⟨_, by simp [xw_dec], rfl⟩), fun _ h => absurd h List.not_mem_nil⟩⟩⟩⟩⟩
theorem x_own_NS : ∀ w ∈ x_own "java/util/NoSuchElementException", x_w w := List.forall_mem_cons.mpr ⟨Or.inl (nm_in (List.mem_of_getElem? (i := 464) (by decide +kernel)) (by decide +kernel)), List.forall_mem_cons.mpr ⟨Or.inl (nm_in (List.mem_of_getElem? (i := 466) (by decide +kernel)) (by decide +kernel)), List.forall_mem_cons.mpr ⟨Or.inl (nm_in (List.mem_of_getElem? (i := 319) (by decide +kernel)) (by decide +kernel)), List.forall_mem_cons.mpr ⟨Or.inl (nm_in (List.mem_of_getElem? (i := 467) (by decide +kernel)) (by decide +kernel)), List.forall_mem_cons.mpr ⟨Or.inl (nm_in (List.mem_of_getElem? (i := 468) (by decide +kernel)) (by decide +kernel)), List.forall_mem_cons.mpr ⟨Or.inl (nm_in (List.mem_of_getElem? (i := 469) (by decide +kernel)) (by decide +kernel)), List.forall_mem_cons.mpr ⟨Or.inl (nm_in (List.mem_of_getElem? (i := 470) (by decide +kernel)) (by decide +kernel)), List.forall_mem_cons.mpr ⟨Or.inl (nm_in (List.mem_of_getElem? (i := 471) (by decide +kernel)) (by decide +kernel)), fun _ h => absurd h List.not_mem_nil⟩⟩⟩⟩⟩⟩⟩⟩
