/-! Constructors: how the world grows, block by block. -/
/-- from a0 to a1 the objects are as the shape says, with references Q and zeroes; below a0 nothing has changed -/
def blk (w0 w : mm_W) (f0 f : mm_F) (a0 a1 : Nat) (Q : Nat → Nat → Nat) : Prop := a0 ≤ a1 ∧ mm_n w = a1 ∧ (∀ a, a < a0 → mm_k w a = mm_k w0 a ∧ mm_l w a = mm_l w0 a ∧ mm_r w a = mm_r w0 a ∧ f a = f0 a) ∧ ∀ a, a0 ≤ a → a < a1 → mm_k w a = sh_k a ∧ mm_l w a = sh_l a ∧ mm_r w a = Q a ∧ f a = fun _ => 0
theorem mm_k_new (w : mm_W) (k l a : Nat) : mm_k (mm_new w k l) a = if a = mm_n w then k else mm_k w a := rfl
theorem mm_l_new (w : mm_W) (k l a : Nat) : mm_l (mm_new w k l) a = if a = mm_n w then l else mm_l w a := rfl
theorem mm_r_new (w : mm_W) (k l a : Nat) : mm_r (mm_new w k l) a = if a = mm_n w then (fun _ => 0) else mm_r w a := by
  funext j
  by_cases e : a = mm_n w
  · rw [if_pos e]; exact if_pos e
  · rw [if_neg e]; exact if_neg e
theorem mm_f0_at (w : mm_W) (f : mm_F) (a : Nat) : mm_f0 w f a = if a = mm_n w then (fun _ => 0) else f a := by
  funext j
  by_cases e : a = mm_n w
  · rw [if_pos e]; exact if_pos e
  · rw [if_neg e]; exact if_neg e
theorem mm_n_new (w : mm_W) (k l : Nat) : mm_n (mm_new w k l) = mm_n w + 1 := rfl
/-- a new object alone -/
theorem blk_new {w : mm_W} {f : mm_F} {k l a : Nat} (ha : mm_n w = a) (hk : sh_k a = k) (hl : sh_l a = l) : blk w (mm_new w k l) f (mm_f0 w f) a (a + 1) (fun _ _ => 0) := by
  refine ⟨by omega, by rw [mm_n_new, ha], fun x hx => ?_, fun x h1 h2 => ?_⟩
  · rw [mm_k_new, mm_l_new, mm_r_new, mm_f0_at, if_neg (by omega), if_neg (by omega), if_neg (by omega), if_neg (by omega)]
    exact ⟨rfl, rfl, rfl, rfl⟩
  · have e : x = a := by omega
    rw [mm_k_new, mm_l_new, mm_r_new, mm_f0_at, if_pos (by omega), if_pos (by omega), if_pos (by omega), if_pos (by omega), e]
    exact ⟨hk.symm, hl.symm, rfl, rfl⟩
/-- one block behind another -/
theorem blk.then {w0 w1 w2 : mm_W} {f0 f1 f2 : mm_F} {a0 a1 a2 b0 : Nat} {Q1 Q2 : Nat → Nat → Nat} (h1 : blk w0 w1 f0 f1 a0 a1 Q1) (h2 : blk w1 w2 f1 f2 b0 a2 Q2) (hb0 : a0 ≤ b0) (hb : b0 ≤ a1) : blk w0 w2 f0 f2 a0 a2 (fun a => if a < b0 then Q1 a else Q2 a) := by
  obtain ⟨x1, x2, x3, x4⟩ := h1
  obtain ⟨y1, y2, y3, y4⟩ := h2
  refine ⟨by omega, y2, fun a ha => ?_, fun a h1 h2 => ?_⟩
  · obtain ⟨p1, p2, p3, p4⟩ := y3 a (by omega)
    obtain ⟨q1, q2, q3, q4⟩ := x3 a ha
    exact ⟨p1.trans q1, p2.trans q2, p3.trans q3, p4.trans q4⟩
  · by_cases e : a < b0
    · obtain ⟨p1, p2, p3, p4⟩ := y3 a e
      obtain ⟨q1, q2, q3, q4⟩ := x4 a h1 (by omega)
      exact ⟨p1.trans q1, p2.trans q2, (p3.trans q3).trans (if_pos e).symm, p4.trans q4⟩
    · obtain ⟨q1, q2, q3, q4⟩ := y4 a (by omega) h2
      exact ⟨q1, q2, q3.trans (if_neg e).symm, q4⟩
/-- a reference is laid into the block -/
theorem blk.put {w0 w : mm_W} {f0 f : mm_F} {a0 a1 a j r : Nat} {Q : Nat → Nat → Nat} (h : blk w0 w f0 f a0 a1 Q) (ha : a0 ≤ a) (ha1 : a < a1) : blk w0 (mm_sr w a j r) f0 f a0 a1 (mm_up Q a j r) := by
  obtain ⟨x1, x2, x3, x4⟩ := h
  have hr : ∀ x, mm_r (mm_sr w a j r) x = mm_up (mm_r w) a j r x := fun x => rfl
  refine ⟨x1, x2, fun x hx => ?_, fun x h1 h2 => ?_⟩
  · obtain ⟨p1, p2, p3, p4⟩ := x3 x hx
    exact ⟨p1, p2, by rw [hr, mm_up_off _ _ (by omega)]; exact p3, p4⟩
  · obtain ⟨p1, p2, p3, p4⟩ := x4 x h1 h2
    refine ⟨p1, p2, ?_, p4⟩
    rw [hr]
    funext i
    unfold mm_up
    rw [p3]
theorem blk.to {w0 w : mm_W} {f0 f : mm_F} {a0 a1 : Nat} {Q Q' : Nat → Nat → Nat} (h : blk w0 w f0 f a0 a1 Q) (e : ∀ a, a0 ≤ a → a < a1 → Q a = Q' a) : blk w0 w f0 f a0 a1 Q' :=
  ⟨h.1, h.2.1, h.2.2.1, fun a h1 h2 => by
    obtain ⟨p1, p2, p3, p4⟩ := h.2.2.2 a h1 h2
    exact ⟨p1, p2, p3.trans (e a h1 h2), p4⟩⟩
theorem blk.is {w0 w : mm_W} {f0 f : mm_F} {a0 a1 a k : Nat} {Q : Nat → Nat → Nat} (h : blk w0 w f0 f a0 a1 Q) (h0 : 0 < a) (ha : a0 ≤ a) (ha1 : a < a1) (hk : sh_k a = k) : mm_is w a k := ⟨h0, by rw [h.2.1]; exact ha1, by rw [(h.2.2.2 a ha ha1).1]; exact hk⟩
theorem blk.ar {w0 w : mm_W} {f0 f : mm_F} {a0 a1 a k l : Nat} {Q : Nat → Nat → Nat} (h : blk w0 w f0 f a0 a1 Q) (h0 : 0 < a) (ha : a0 ≤ a) (ha1 : a < a1) (hk : sh_k a = k) (hl : sh_l a = l) : mm_ar w a k l := ⟨h.is h0 ha ha1 hk, by rw [(h.2.2.2 a ha ha1).2.1]; exact hl⟩
theorem blk.re {w0 w : mm_W} {f0 f : mm_F} {a0 a1 a j : Nat} {Q : Nat → Nat → Nat} (h : blk w0 w f0 f a0 a1 Q) (ha : a0 ≤ a) (ha1 : a < a1) : mm_r w a j = Q a j := by rw [(h.2.2.2 a ha ha1).2.2.1]
theorem blk.self {w0 w : mm_W} {f0 f : mm_F} {a0 a1 : Nat} {Q : Nat → Nat → Nat} (h : blk w0 w f0 f a0 a1 Q) : blk w w f f a0 a1 Q := ⟨h.1, h.2.1, fun _ _ => ⟨rfl, rfl, rfl, rfl⟩, h.2.2.2⟩
theorem sh_far : ∀ a, a < 153 → ((sh_rl[a]?).getD []).length ≤ 40 := by decide +kernel
theorem sh_r_eq {a : Nat} {q : Nat → Nat} (ha : a < 153) (h : ∀ j, j < 40 → sh_r a j = q j) (hq : ∀ j, 40 ≤ j → q j = 0) : sh_r a = q := by
  funext j
  by_cases e : j < 40
  · exact h j e
  · rw [hq j (by omega)]
    unfold sh_r
    rw [List.getElem?_eq_none (by have := sh_far a ha; omega)]; rfl
/-! a matrix of four rows with 48 cells -/
def mm_mn (w : mm_W) : mm_W := (w.1 + 5, (fun a => if a = w.1 then 103 else if w.1 < a ∧ a < w.1 + 5 then 100 else w.2.1 a), (fun a => if a = w.1 then 4 else if w.1 < a ∧ a < w.1 + 5 then 48 else w.2.2.1 a), (fun a j => if a = w.1 then (if j < 4 then w.1 + 1 + j else 0) else if w.1 < a ∧ a < w.1 + 5 then 0 else w.2.2.2.1 a j), w.2.2.2.2)
def mm_fn (w : mm_W) (f : mm_F) : mm_F := fun a j => if w.1 ≤ a ∧ a < w.1 + 5 then 0 else f a j
theorem blk_mn {w : mm_W} {f : mm_F} {a : Nat} (ha : mm_n w = a) (hk : sh_k a = 103) (hl : sh_l a = 4) (hi : ∀ i, i < 4 → sh_k (a + 1 + i) = 100 ∧ sh_l (a + 1 + i) = 48) : blk w (mm_mn w) f (mm_fn w f) a (a + 5) (fun x j => if x = a ∧ j < 4 then a + 1 + j else 0) := by
  have ha' : w.1 = a := ha
  have e1 : ∀ x, mm_k (mm_mn w) x = if x = w.1 then 103 else if w.1 < x ∧ x < w.1 + 5 then 100 else mm_k w x := fun x => rfl
  have e2 : ∀ x, mm_l (mm_mn w) x = if x = w.1 then 4 else if w.1 < x ∧ x < w.1 + 5 then 48 else mm_l w x := fun x => rfl
  have e3 : ∀ x j, mm_r (mm_mn w) x j = if x = w.1 then (if j < 4 then w.1 + 1 + j else 0) else if w.1 < x ∧ x < w.1 + 5 then 0 else mm_r w x j := fun x j => rfl
  have e4 : ∀ x j, mm_fn w f x j = if w.1 ≤ x ∧ x < w.1 + 5 then 0 else f x j := fun x j => rfl
  refine ⟨by omega, by show w.1 + 5 = a + 5; omega, fun x hx => ?_, fun x h1 h2 => ?_⟩
  · refine ⟨?_, ?_, funext fun j => ?_, funext fun j => ?_⟩
    · rw [e1, if_neg (by omega), if_neg (by omega)]
    · rw [e2, if_neg (by omega), if_neg (by omega)]
    · rw [e3, if_neg (by omega), if_neg (by omega)]
    · rw [e4, if_neg (by omega)]
  · by_cases e : x = a
    · refine ⟨?_, ?_, funext fun j => ?_, funext fun j => ?_⟩
      · rw [e1, if_pos (by omega), e, hk]
      · rw [e2, if_pos (by omega), e, hl]
      · rw [e3, if_pos (by omega), ha']
        by_cases q : j < 4
        · rw [if_pos q]; exact (if_pos ⟨e, q⟩).symm
        · rw [if_neg q]; exact (if_neg (fun z => q z.2)).symm
      · rw [e4, if_pos (by omega)]
    · obtain ⟨i1, i2⟩ := hi (x - a - 1) (by omega)
      rw [show a + 1 + (x - a - 1) = x by omega] at i1 i2
      refine ⟨?_, ?_, funext fun j => ?_, funext fun j => ?_⟩
      · rw [e1, if_neg (by omega), if_pos (by omega), i1]
      · rw [e2, if_neg (by omega), if_pos (by omega), i2]
      · rw [e3, if_neg (by omega), if_pos (by omega)]; exact (if_neg (fun z => e z.1)).symm
      · rw [e4, if_pos (by omega)]
theorem outer_arr (c : ClassId) (N h0 : Nat) : ∀ i : Nat, Jvm.Free.Multi.outerC c N h0 i = arrV c N (fun j => if j < i then .ref (h0 + 1 + j) else .null)
  | 0 => by
    show ({ cls := c, slots := Array.replicate N .null, vm := .none } : Cell) = _
    rw [arrV_new]
    refine congrArg (arrV c N) (funext fun j => ?_)
    rw [if_neg (by omega)]
  | i + 1 => by
    show (Jvm.Free.Multi.outerC c N h0 i).setSlot i (.ref (h0 + 1 + i)) = _
    rw [outer_arr c N h0 i, arrV_store]
    refine congrArg (arrV c N) (funext fun j => ?_)
    unfold updV
    by_cases e : j = i
    · rw [if_pos e, if_pos (by omega), e]
    · rw [if_neg e]
      show (if j < i then Value.ref (h0 + 1 + j) else Value.null) = _
      by_cases q : j < i
      · rw [if_pos q, if_pos (by omega)]
      · rw [if_neg q, if_neg (by omega)]
theorem inner_arr (c : ClassId) (M : Nat) (v : Value) : Jvm.Free.Multi.innerC c M v = arrV c M (fun _ => v) := by
  show ({ cls := c, slots := Array.replicate M v, vm := .none } : Cell) = _
  rw [arrV_new]
section MMA
variable {E : mm_E} {Γ : mm_G} {cc : ByteArray} {nL pc : Nat} {own : String} {lev kc ks : Nat} {lv : List (Nat × Value)} {st : List Value} {w : mm_W} {f : mm_F} {ca sa : Nat}
theorem mm_mna (h : mm_ok E Γ cc nL own lev kc ks) {idx : Nat} (hcl : Cond.classLink own idx "[[I" ∈ nm_tb) (harr : Cond.arrayClass .int ∈ nm_tb) (h0 : 0 < mm_n w) (hca : ca + 5 ≤ kc) (hsa : sa + 196 ≤ ks) (hd : decode cc pc = .ok (.multianewarray idx 2, 4))
    (kk : mm_go E Γ nL (pc + 4) lv (mm_rf E (mm_n w) :: st) (mm_mn w) (mm_fn w f) (ca + 5) (sa + 196)) : mm_go E Γ nL pc lv (.int 48 :: .int 4 :: st) w f ca sa := by
  intro ls H locs hl hR hq T hT X
  have hts := h.2.2.2.2.1
  have hroom := h.2.2.2.2.2.2.2.2
  have r1 := hroom.1
  have r2 := hroom.2
  have e4 : (4 : Int32).toNatClampNeg = 4 := rfl
  have e48 : (48 : Int32).toNatClampNeg = 48 := rfl
  obtain ⟨vm₁, cA, comp, -, fA, fC, hO, -, X', step⟩ := X.multianewarray2F (ty := .int) h.1 h.2.2.2.1 (hts _ hcl) (h.2.2.2.2.2.1.2.2.2.2) (hts _ harr) (g := F0 (mm_m Γ) pc ls (.int 48 :: .int 4 :: st)) rfl (by rw [h.2.1]; exact hd) (n := 4) (k := 48) (rest := st) rfl (by decide) (by decide) (by decide) (by decide) (by decide) rfl rfl (by rw [e4]; omega) (by rw [e4, e48]; omega)
  rw [e4, e48] at X' step
  generalize hF : Jvm.Free.Multi.fill (T.setVm vm₁) cA comp 4 48 (defaultValue .int) 4 = F at X' step
  have hTh : (T.setVm vm₁).heap = H := hT
  obtain ⟨f1, f2, -, -⟩ := Jvm.Free.Multi.fill_facts (T.setVm vm₁) cA comp 4 48 (defaultValue .int) 4
  rw [hF, hTh] at f1 f2
  have hold : ∀ x : Nat, x < H.size → F.heap[x]? = H[x]? := fun x hx => by
    have := Jvm.Free.Multi.fill_old (T.setVm vm₁) cA comp 4 48 (defaultValue .int) (a := x) (by rw [hTh]; exact hx) 4
    rw [hF, hTh] at this; exact this
  have hrow : ∀ j : Nat, j < 4 → F.heap[H.size + 1 + j]? = some (Jvm.Free.Multi.innerC comp 48 (defaultValue .int)) := fun j hj => by
    have := Jvm.Free.Multi.fill_inner (T.setVm vm₁) cA comp 4 48 (defaultValue .int) 4 j hj
    rw [hF, hTh] at this; exact this
  have hcA : cA = E.2.1.1 103 := Option.some.inj (fA.symm.trans (h.2.2.2.2.2.1.2.1 3 _ rfl).2)
  have hcI : comp = E.2.1.1 100 := Option.some.inj (fC.symm.trans (h.2.2.2.2.2.1.2.1 0 _ rfl).2)
  have hs := hR.1
  have hR' : mm_R E.2.1 E.2.2.1 E.2.2.2 (mm_mn w) (mm_fn w f) F.heap := by
    have k1 : ∀ x, mm_k (mm_mn w) x = if x = mm_n w then 103 else if mm_n w < x ∧ x < mm_n w + 5 then 100 else mm_k w x := fun x => rfl
    have k2 : ∀ x, mm_l (mm_mn w) x = if x = mm_n w then 4 else if mm_n w < x ∧ x < mm_n w + 5 then 48 else mm_l w x := fun x => rfl
    have k3 : ∀ x j, mm_r (mm_mn w) x j = if x = mm_n w then (if j < 4 then mm_n w + 1 + j else 0) else if mm_n w < x ∧ x < mm_n w + 5 then 0 else mm_r w x j := fun x j => rfl
    have k4 : ∀ x j, mm_fn w f x j = if mm_n w ≤ x ∧ x < mm_n w + 5 then 0 else f x j := fun x j => rfl
    refine ⟨by rw [f1, hs]; rfl, fun q hq' => by rw [hold q (by rw [hs]; omega)]; exact hR.2.1 q hq', fun x h1 h2 => ?_⟩
    have h2' : x < mm_n w + 5 := h2
    by_cases e : x = mm_n w
    · refine ⟨fun hno => ?_, fun _ => ?_⟩
      · rw [k1, if_pos e] at hno; omega
      · rw [k1, k2, if_pos e, if_pos e, e, ← hs, f2, outer_arr, hcA]
        refine congrArg some (congrArg (arrV (E.2.1.1 103) 4) (funext fun j => ?_))
        unfold mm_S
        rw [k1, if_pos rfl, k3, if_pos rfl, k4]
        by_cases q : j < 4
        · rw [if_pos q, if_pos q]
          show _ = (if mm_n w + 1 + j = 0 then Value.null else .ref (E.2.2.1 + (mm_n w + 1 + j)))
          rw [if_neg (by omega), hs, show E.2.2.1 + mm_n w + 1 + j = E.2.2.1 + (mm_n w + 1 + j) by omega]
        · rw [if_neg q, if_neg q]; rfl
    · by_cases e2 : mm_n w < x
      · refine ⟨fun hno => ?_, fun _ => ?_⟩
        · rw [k1, if_neg e, if_pos ⟨e2, h2'⟩] at hno; omega
        · have hr := hrow (x - mm_n w - 1) (by omega)
          rw [show H.size + 1 + (x - mm_n w - 1) = E.2.2.1 + x by rw [hs]; omega] at hr
          rw [k1, k2, if_neg e, if_neg e, if_pos ⟨e2, h2'⟩, if_pos ⟨e2, h2'⟩, hr, hcI]
          rw [inner_arr]
          refine congrArg some (congrArg (arrV (E.2.1.1 100) 48) (funext fun j => ?_))
          unfold mm_S
          rw [k1, if_neg e, if_pos ⟨e2, h2'⟩, k4, if_pos ⟨by omega, h2'⟩]
          rfl
      · refine (hR.2.2 x h1 (by omega)).moved (hold _ (by rw [hs]; omega)) ?_ ?_ ?_
        · rw [k1, if_neg e, if_neg (fun z => e2 z.1)]
        · rw [k2, if_neg e, if_neg (fun z => e2 z.1)]
        · funext j
          unfold mm_S
          rw [k1, if_neg e, if_neg (fun z => e2 z.1), k3, if_neg e, if_neg (fun z => e2 z.1), k4, if_neg (by omega)]
          rfl
  rw [hT, hs] at step
  obtain ⟨t, a1, b1⟩ := kk ls F.heap locs hl hR' hq F rfl X'
  exact ⟨t, step t a1, b1⟩
end MMA
