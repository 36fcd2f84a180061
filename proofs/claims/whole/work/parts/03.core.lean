/-! The flat memory: objects and arrays are numbered 1, 2, ..; number a lies at address b + a. kinds below 100 are objects (places in nm_cl), kinds from 100 on arrays (100 + place in nm_at). -/
abbrev mm_W : Type := Nat × (Nat → Nat) × (Nat → Nat) × (Nat → Nat → Nat) × (Nat → Nat → Int64)
abbrev mm_F : Type := Nat → Nat → Int32
def mm_n (w : mm_W) : Nat := w.1
def mm_k (w : mm_W) : Nat → Nat := w.2.1
def mm_l (w : mm_W) : Nat → Nat := w.2.2.1
def mm_r (w : mm_W) : Nat → Nat → Nat := w.2.2.2.1
def mm_j (w : mm_W) : Nat → Nat → Int64 := w.2.2.2.2
def mm_up {α : Type} (f : Nat → Nat → α) (a j : Nat) (x : α) : Nat → Nat → α := fun c k => if c = a ∧ k = j then x else f c k
theorem mm_up_eq {α : Type} (f : Nat → Nat → α) (a j : Nat) (x : α) : mm_up f a j x a j = x := by simp [mm_up]
theorem mm_up_ne {α : Type} (f : Nat → Nat → α) {a j c k : Nat} (x : α) (h : ¬ (c = a ∧ k = j)) : mm_up f a j x c k = f c k := if_neg h
theorem mm_up_off {α : Type} (f : Nat → Nat → α) {a j c : Nat} (x : α) (h : c ≠ a) : mm_up f a j x c = f c := by
  funext k
  exact mm_up_ne f x (fun q => h q.1)
def mm_sr (w : mm_W) (a j r : Nat) : mm_W := (w.1, w.2.1, w.2.2.1, mm_up w.2.2.2.1 a j r, w.2.2.2.2)
def mm_sj (w : mm_W) (a j : Nat) (z : Int64) : mm_W := (w.1, w.2.1, w.2.2.1, w.2.2.2.1, mm_up w.2.2.2.2 a j z)
def mm_new (w : mm_W) (k len : Nat) : mm_W := (w.1 + 1, (fun a => if a = w.1 then k else w.2.1 a), (fun a => if a = w.1 then len else w.2.2.1 a), (fun a j => if a = w.1 then 0 else w.2.2.2.1 a j), (fun a j => if a = w.1 then 0 else w.2.2.2.2 a j))
def mm_f0 (w : mm_W) (f : mm_F) : mm_F := fun a j => if a = w.1 then 0 else f a j
def mm_v (b t : Nat) (x : Int32) (r : Nat) (z : Int64) : Value := if t = 0 then .int x else if t = 1 then (if r = 0 then .null else .ref (b + r)) else .long z
def mm_S (b : Nat) (w : mm_W) (f : mm_F) (a j : Nat) : Value := mm_v b (nm_t (mm_k w a) j) (f a j) (mm_r w a j) (mm_j w a j)
def mm_C1 (D : va_G) (b : Nat) (w : mm_W) (f : mm_F) (H : Heap) (a : Nat) : Prop :=
  (mm_k w a < 100 → t_OB (b + a) (D.1 (mm_k w a)) (nm_N (mm_k w a)) (D.2 (mm_k w a)) H (mm_S b w f a)) ∧
  (¬ mm_k w a < 100 → H[b + a]? = some (arrV (D.1 (mm_k w a)) (mm_l w a) (mm_S b w f a)))
def mm_R (D : va_G) (b : Nat) (G : Nat → Option Cell) (w : mm_W) (f : mm_F) (H : Heap) : Prop :=
  H.size = b + mm_n w ∧ (∀ q : Nat, q ≤ b → H[q]? = G q) ∧ ∀ a : Nat, 0 < a → a < mm_n w → mm_C1 D b w f H a
def mm_is (w : mm_W) (a k : Nat) : Prop := 0 < a ∧ a < mm_n w ∧ mm_k w a = k
def mm_ar (w : mm_W) (a k len : Nat) : Prop := mm_is w a k ∧ mm_l w a = len
theorem mm_C1.moved {D : va_G} {b : Nat} {w w' : mm_W} {f f' : mm_F} {H H' : Heap} {c : Nat} (h : mm_C1 D b w f H c) (hh : H'[b + c]? = H[b + c]?) (hk : mm_k w' c = mm_k w c) (hl : mm_l w' c = mm_l w c) (hS : mm_S b w' f' c = mm_S b w f c) : mm_C1 D b w' f' H' c := by
  unfold mm_C1 at h ⊢
  rw [hk, hl, hS]
  exact ⟨fun q => (h.1 q).kept hh, fun q => hh.trans (h.2 q)⟩
theorem mm_R.obj {D : va_G} {b : Nat} {G : Nat → Option Cell} {w : mm_W} {f : mm_F} {H : Heap} {a k : Nat} (h : mm_R D b G w f H) (ho : mm_is w a k) (hk : k < 100) : t_OB (b + a) (D.1 k) (nm_N k) (D.2 k) H (mm_S b w f a) := by
  obtain ⟨h1, h2, rfl⟩ := ho
  exact (h.2.2 a h1 h2).1 hk
theorem mm_R.arr {D : va_G} {b : Nat} {G : Nat → Option Cell} {w : mm_W} {f : mm_F} {H : Heap} {a k n : Nat} (h : mm_R D b G w f H) (ho : mm_ar w a k n) (hk : ¬ k < 100) : H[b + a]? = some (arrV (D.1 k) n (mm_S b w f a)) := by
  obtain ⟨⟨h1, h2, rfl⟩, rfl⟩ := ho
  exact (h.2.2 a h1 h2).2 hk
theorem mm_R.put {D : va_G} {b : Nat} {G : Nat → Option Cell} {w w' : mm_W} {f f' : mm_F} {H H' : Heap} {a : Nat} (h : mm_R D b G w f H) (hn : mm_n w' = mm_n w) (hz : H'.size = H.size) (ho : ∀ q : Nat, q ≠ b + a → H'[q]? = H[q]?) (ha : 0 < a) (hc : mm_C1 D b w' f' H' a)
    (hs : ∀ c : Nat, c ≠ a → mm_k w' c = mm_k w c ∧ mm_l w' c = mm_l w c ∧ mm_S b w' f' c = mm_S b w f c) : mm_R D b G w' f' H' := by
  refine ⟨by rw [hz, hn]; exact h.1, fun q hq => by rw [ho q (by omega)]; exact h.2.1 q hq, fun c h0 hc2 => ?_⟩
  by_cases e : c = a
  · subst e; exact hc
  · obtain ⟨e1, e2, e3⟩ := hs c e
    exact (h.2.2 c h0 (by rw [← hn]; exact hc2)).moved (ho _ (by omega)) e1 e2 e3
theorem mm_R.push {D : va_G} {b : Nat} {G : Nat → Option Cell} {w : mm_W} {f : mm_F} {H H' : Heap} {k len : Nat} (h : mm_R D b G w f H) (hz : H'.size = H.size + 1) (ho : ∀ q : Nat, q < H.size → H'[q]? = H[q]?) (h0 : 0 < mm_n w) (hc : mm_C1 D b (mm_new w k len) (mm_f0 w f) H' (mm_n w)) : mm_R D b G (mm_new w k len) (mm_f0 w f) H' := by
  have hs := h.1
  refine ⟨by rw [hz, hs]; rfl, fun q hq => by rw [ho q (by omega)]; exact h.2.1 q hq, fun c h1 h2 => ?_⟩
  by_cases e : c = mm_n w
  · subst e; exact hc
  · have hlt : c < mm_n w := by
      have : c < mm_n w + 1 := h2
      omega
    have e' : ¬ c = w.1 := e
    refine (h.2.2 c h1 hlt).moved (ho _ (by omega)) ?_ ?_ ?_
    · simp [mm_k, mm_new, e']
    · simp [mm_l, mm_new, e']
    · funext j
      simp [mm_S, mm_k, mm_r, mm_j, mm_new, mm_f0, e']
theorem mm_S_i {b : Nat} {w : mm_W} {f : mm_F} {a j : Nat} (x : Int32) (ht : nm_t (mm_k w a) j = 0) : mm_S b w (mm_up f a j x) a = updV (mm_S b w f a) j (.int x) := by
  funext k
  by_cases e : k = j
  · subst e
    simp [mm_S, updV, mm_up, mm_v, ht]
  · simp [mm_S, updV, mm_up, e]
theorem mm_S_io {b : Nat} {w : mm_W} {f : mm_F} {a j c : Nat} (x : Int32) (h : c ≠ a) : mm_S b w (mm_up f a j x) c = mm_S b w f c := by
  funext k
  simp [mm_S, mm_up, h]
theorem mm_S_r {b : Nat} {w : mm_W} {f : mm_F} {a j r : Nat} (hr : 0 < r) (ht : nm_t (mm_k w a) j = 1) : mm_S b (mm_sr w a j r) f a = updV (mm_S b w f a) j (.ref (b + r)) := by
  funext k
  by_cases e : k = j
  · subst e
    have hr' : r ≠ 0 := by omega
    show mm_v b (nm_t (mm_k w a) k) (f a k) (mm_up w.2.2.2.1 a k r a k) (mm_j w a k) = _
    rw [ht, mm_up_eq]
    simp [mm_v, updV, hr']
  · simp [mm_S, updV, mm_r, mm_k, mm_j, mm_sr, mm_up, e]
theorem mm_S_ro {b : Nat} {w : mm_W} {f : mm_F} {a j r c : Nat} (h : c ≠ a) : mm_S b (mm_sr w a j r) f c = mm_S b w f c := by
  funext k
  simp [mm_S, mm_r, mm_k, mm_j, mm_sr, mm_up, h]
theorem mm_S_l {b : Nat} {w : mm_W} {f : mm_F} {a j : Nat} (z : Int64) (ht : nm_t (mm_k w a) j = 2) : mm_S b (mm_sj w a j z) f a = updV (mm_S b w f a) j (.long z) := by
  funext k
  by_cases e : k = j
  · subst e
    show mm_v b (nm_t (mm_k w a) k) (f a k) (mm_r w a k) (mm_up w.2.2.2.2 a k z a k) = _
    rw [ht, mm_up_eq]
    simp [mm_v, updV]
  · simp [mm_S, updV, mm_r, mm_k, mm_j, mm_sj, mm_up, e]
theorem mm_S_lo {b : Nat} {w : mm_W} {f : mm_F} {a j c : Nat} {z : Int64} (h : c ≠ a) : mm_S b (mm_sj w a j z) f c = mm_S b w f c := by
  funext k
  simp [mm_S, mm_r, mm_k, mm_j, mm_sj, mm_up, h]
/-! What is known of the tables. -/
def mm_AA (U : State) : Prop := (Cond.arrayOver (.array .int)).before #[] U = true
theorem mm_AA.moved {u U : State} (hvm : u.vm.Alike U.vm) (h : mm_AA u) : mm_AA U := by
  obtain ⟨comp, c, k, h1, h2, h3, h4, h5⟩ := arrayOverA_spec h
  obtain ⟨k', hk', he⟩ := hvm.2.2 _ _ h3
  have hi : (U.vm.classes.findIdx? fun (x : Class) => match x.kind with | .array component _ => component == comp | _ => false) = some c := by
    rw [hvm.findIdx?_eq _ (fun _ => rfl)]
    exact h2
  have hkind : k'.kind = .array comp (.array .int) := by rw [he]; exact h4
  have f1 : U.vm.findClass (FieldType.array .int).toString = some comp := by rw [hvm.findClass]; exact h1
  have f2 : U.vm.findClass ("[" ++ (FieldType.array .int).toString) = some c := by rw [hvm.findClass]; exact h5
  unfold mm_AA Cond.before Cond.holds
  simp only [Cond.value]
  rw [f1, Option.bind_some]
  refine (congrArg (fun o : Option Nat => (o.bind _ == some true)) hi).trans ?_
  simp [hk', hkind, f2]
def mm_K (D : va_G) (U : State) : Prop := (∀ (k : Nat) (q : vw_C), nm_cl[k]? = some q → u_Kn U q.1 q.2.1 q.2.2 (D.1 k) (D.2 k)) ∧ (∀ (k : Nat) (ty : FieldType), nm_at[k]? = some ty → ArrOfT U (D.1 (100 + k)) ty ∧ va_RA U (D.1 (100 + k)) ty) ∧ (∀ q ∈ nm_nw, va_Nw (.methodLinkNest q.1 q.2.1 q.2.2.1 q.2.2.2) U) ∧ (∀ C ∈ nm_ao, va_AO C U) ∧ mm_AA U
theorem mm_K.moved {D : va_G} {u U : State} (hW : u.WarmedH U.vm) (h : mm_K D u) : mm_K D U := ⟨fun k q hq => u_Kn_moved hW.alike (h.1 k q hq), fun k ty hk => ⟨arrOfT_moved hW.alike (h.2.1 k ty hk).1, (h.2.1 k ty hk).2.moved hW.alike⟩, fun q hq => va_Nw.warmM hW (h.2.2.1 q hq), fun C hC => (h.2.2.2.1 C hC).moved hW.alike, h.2.2.2.2.moved hW.alike⟩
theorem mm_K.same {D : va_G} {u U : State} (hv : u.vm = U.vm) (h : mm_K D u) : mm_K D U := by
  have ha : u.vm.Alike U.vm := by rw [hv]; exact Vm.Alike.refl _
  exact ⟨fun k q hq => u_Kn_moved ha (h.1 k q hq), fun k ty hk => ⟨arrOfT_moved ha (h.2.1 k ty hk).1, (h.2.1 k ty hk).2.moved ha⟩, fun q hq => (h.2.2.1 q hq).same rfl hv, fun C hC => (h.2.2.2.1 C hC).moved ha, h.2.2.2.2.moved ha⟩
/-! E: launch, tables' numbers, base, the old heap. G: the method's own frame. -/
abbrev mm_E : Type := Launch × va_G × Nat × (Nat → Option Cell)
abbrev mm_G : Type := Program × Env × Room × State × MethodId × Array Value × List Frame × Method × Code × (State → Prop)
abbrev mm_p (Γ : mm_G) : Program := Γ.1
abbrev mm_e (Γ : mm_G) : Env := Γ.2.1
abbrev mm_rm (Γ : mm_G) : Room := Γ.2.2.1
abbrev mm_s (Γ : mm_G) : State := Γ.2.2.2.1
abbrev mm_m (Γ : mm_G) : MethodId := Γ.2.2.2.2.1
abbrev mm_a (Γ : mm_G) : Array Value := Γ.2.2.2.2.2.1
abbrev mm_bl (Γ : mm_G) : List Frame := Γ.2.2.2.2.2.2.1
abbrev mm_me (Γ : mm_G) : Method := Γ.2.2.2.2.2.2.2.1
abbrev mm_c (Γ : mm_G) : Code := Γ.2.2.2.2.2.2.2.2.1
abbrev mm_q (Γ : mm_G) : State → Prop := Γ.2.2.2.2.2.2.2.2.2
abbrev mm_rf (E : mm_E) (a : Nat) : Value := .ref (E.2.2.1 + a)
def mm_go (E : mm_E) (Γ : mm_G) (nL pc : Nat) (lv : List (Nat × Value)) (st : List Value) (w : mm_W) (f : mm_F) (ca sa : Nat) : Prop :=
  ∀ (ls : Array Slot) (H : Heap) (locs : List Loc), lv_has ls nL lv → mm_R E.2.1 E.2.2.1 E.2.2.2 w f H → (∀ q ∈ locs, E.2.2.1 < q.base) →
    W (mm_p Γ) E.1 (mm_e Γ) (mm_rm Γ) (mm_s Γ) (mm_m Γ) (mm_a Γ) (mm_bl Γ) (mm_me Γ) (mm_c Γ) H locs ca sa (mm_q Γ) (F0 (mm_m Γ) pc ls st)
def mm_ok (E : mm_E) (Γ : mm_G) (cc : ByteArray) (nL : Nat) (own : String) (lev kc ks : Nat) : Prop :=
  (mm_p Γ).tables.exec = Jvm.exec ∧ (mm_c Γ).code = cc ∧ (mm_c Γ).maxLocals = nL ∧ (mm_s Γ).vm.findClass own = some (mm_m Γ).cls ∧ (∀ w ∈ nm_tb, w.before (mm_a Γ) (mm_s Γ) = true) ∧ mm_K E.2.1 (mm_s Γ) ∧ lev ≤ (mm_rm Γ).frames ∧ 37 * lev ≤ (mm_rm Γ).locals ∧ kc ≤ (mm_rm Γ).cells ∧ ks ≤ (mm_rm Γ).slots
def mm_Pc (E : mm_E) (as : List Value) (w : mm_W) (f : mm_F) : Array Value → State → Prop := fun v U => v = as.toArray ∧ mm_K E.2.1 U ∧ mm_R E.2.1 E.2.2.1 E.2.2.2 w f U.heap
def mm_Qc (E : mm_E) (Post : Option Value → mm_W → mm_F → Prop) : Array Value → State → Outcome → State → Prop := fun _ _ o t => ∃ (r : Option Value) (w : mm_W) (f : mm_F), o = .returned r ∧ Post r w f ∧ mm_R E.2.1 E.2.2.1 E.2.2.2 w f t.heap
def mm_room (lev kc ks : Nat) : Room := { frames := lev, cells := kc, slots := ks, locals := 37 * lev }
def mm_ws (y : MethodName) (cc : ByteArray) (nL : Nat) (ret : Option FieldType) : List Cond := Cond.code y cc nL ret :: nm_tb
/-- the contract: from these arguments and this memory method y returns, and Post -/
def mm_C (E : mm_E) (y : MethodName) (cc : ByteArray) (nL : Nat) (ret : Option FieldType) (lev kc ks : Nat) (as : List Value) (w : mm_W) (f : mm_F) (Post : Option Value → mm_W → mm_F → Prop) : Prop :=
  Met E.1 y (mm_ws y cc nL ret) (mm_room lev kc ks) (mm_Pc E as w f) (mm_Qc E Post) kc ks (fun q => E.2.2.1 < q)
def mm_end (E : mm_E) (Γ : mm_G) (ret : Option FieldType) (kc ks : Nat) (Post : Option Value → mm_W → mm_F → Prop) (nm : String) : Prop :=
  (∀ t : State, MQ (mm_bl Γ) (mm_Qc E Post) (mm_a Γ) (mm_s Γ) kc ks (fun q => E.2.2.1 < q) t → mm_q Γ t) ∧ (mm_me Γ).sig.returnType = ret ∧ (mm_me Γ).locks = false ∧ (mm_me Γ).name = nm
theorem mm_imp {p : Program} {l : Launch} {e : Env} {R : Room} {s : State} {m : MethodId} {args : Array Value} {below : List Frame} {meth : Method} {c : Code} {H : Heap} {locs : List Loc} {cells slots : Nat} {Q Q' : State → Prop} {g : JFrame} (h : ∀ t, Q t → Q' t) (k : W p l e R s m args below meth c H locs cells slots Q g) : W p l e R s m args below meth c H locs cells slots Q' g := by
  intro T hT X
  obtain ⟨t, a, b⟩ := k T hT X
  exact ⟨t, a, h t b⟩
theorem mm_start {E : mm_E} {y : MethodName} {cc : ByteArray} {nL : Nat} {ret : Option FieldType} {own : String} {lev kc ks : Nat} {as : List Value} {w : mm_W} {f : mm_F} {Post : Option Value → mm_W → mm_F → Prop} (hy : plainName y.cls = true) (hown : y.cls = own) (hlen : (lg_sl as).length ≤ nL)
    (body : ∀ Γ : mm_G, mm_ok E Γ cc nL own lev kc ks → mm_end E Γ ret kc ks Post y.name → mm_go E Γ nL 0 (lv_args 0 as) [] w f 0 0) : mm_C E y cc nL ret lev kc ks as w f Post := by
  refine Met.ofW (cc := cc) (maxL := nL) (ret := ret) hy rfl ?_
  intro p e s m args below meth c s₁ B hml hv
  obtain ⟨rfl, hK, hR⟩ := hv
  have hts := atoms_spec (ws := mm_ws y cc nL ret) B.pre
  have hfc : s.vm.findClass own = some m.cls := by rw [← hown]; exact findClass_of_methodNamed B.named
  have hg := body (p, e, (headSpec (mm_ws y cc nL ret) (mm_room lev kc ks)).room, s, m, as.toArray, below, meth, c, MQ below (mm_Qc E Post) as.toArray s kc ks (fun q => E.2.2.1 < q))
    ⟨B.exec, B.bytes, hml, hfc, fun x hx => hts x (List.mem_cons_of_mem _ hx), hK, Nat.le_refl _, Nat.le_refl _, Nat.le_refl _, Nat.le_refl _⟩ ⟨fun _ z => z, B.returns, B.notSynchronized, (name_of_methodNamed B.named B.method).1⟩
  rw [lg_entry_eq]
  exact hg _ _ [] (lv_entry as hlen) hR (fun q h => by cases h)
