/-! Static checks of a class's fields, and the rows that touch the heap. -/
def nm_fl (own : String) (idx k j : Nat) : Prop := ∃ (C : String) (T : u_T) (N : Nat), nm_cl[k]? = some (C, T, N) ∧ j < N ∧ (T j).1 = C ∧ Cond.fieldLink own idx C (T j).2.1 (T j).2.2.1 ∈ nm_tb
theorem nm_fl_spec {own : String} {idx k j : Nat} (h : nm_fl own idx k j) : ∃ (C : String) (T : u_T) (N : Nat), nm_cl[k]? = some (C, T, N) ∧ j < N ∧ (T j).1 = C ∧ Cond.fieldLink own idx C (T j).2.1 (T j).2.2.1 ∈ nm_tb := h
section MMH
variable {E : mm_E} {Γ : mm_G} {cc : ByteArray} {nL pc : Nat} {own : String} {lev kc ks : Nat} {lv : List (Nat × Value)} {st : List Value} {w : mm_W} {f : mm_F} {ca sa : Nat}
theorem mm_S_int {b a k j : Nat} (ho : mm_is w a k) (ht : nm_t k j = 0) : mm_S b w f a j = .int (f a j) := by
  obtain ⟨-, -, rfl⟩ := ho
  simp [mm_S, mm_v, ht]
theorem mm_S_ref {b a k j r : Nat} (ho : mm_is w a k) (ht : nm_t k j = 1) (hr : mm_r w a j = r) (h0 : 0 < r) : mm_S b w f a j = .ref (b + r) := by
  obtain ⟨-, -, rfl⟩ := ho
  have h0' : r ≠ 0 := by omega
  simp [mm_S, mm_v, ht, hr, h0']
theorem mm_S_long {b a k j : Nat} (ho : mm_is w a k) (ht : nm_t k j = 2) : mm_S b w f a j = .long (mm_j w a j) := by
  obtain ⟨-, -, rfl⟩ := ho
  simp [mm_S, mm_v, ht]
theorem mm_lt100 {k : Nat} {q : vw_C} (h : nm_cl[k]? = some q) : k < 100 := Nat.lt_of_lt_of_le (List.getElem?_eq_some_iff.mp h).1 nm_len
theorem mm_getf (h : mm_ok E Γ cc nL own lev kc ks) {idx k j a : Nat} (hf : nm_fl own idx k j) (ho : mm_is w a k) (hd : decode cc pc = .ok (.getfield idx, 3)) (kk : mm_go E Γ nL (pc + 3) lv (mm_S E.2.2.1 w f a j :: st) w f ca sa) : mm_go E Γ nL pc lv (mm_rf E a :: st) w f ca sa := by
  obtain ⟨C, T, N, hc, hj, hC, hlink⟩ := nm_fl_spec hf
  intro ls H locs hl hR hq
  have hts := h.2.2.2.2.1
  obtain ⟨cell, q1, q2, q3, q4⟩ := hR.obj ho (mm_lt100 hc)
  rw [nm_Nk hc] at q4
  obtain ⟨hS, hfc, kC, hkC, hkind⟩ := h.2.2.2.2.2.1.1 k _ hc
  obtain ⟨cf, kf, fi, fd, hi, hsl⟩ := hS j hj
  have hi' := hi
  rw [hC] at hi'
  exact W.getf h.1 h.2.1 h.2.2.2.1 (hts _ hlink) hi' (u_facts hfc hkC (u_lays hts (nm_lay hc) hj) hi).1 q1 (by rw [q3]; exact fun z => by cases z) (v := mm_S E.2.2.1 w f a j) (by rw [hsl]; exact q4 j hj) rfl rfl hd (kk ls H locs hl hR hq)
theorem mm_geti (h : mm_ok E Γ cc nL own lev kc ks) {idx k j a : Nat} (hf : nm_fl own idx k j) (ht : nm_t k j = 0) (ho : mm_is w a k) (hd : decode cc pc = .ok (.getfield idx, 3)) (kk : mm_go E Γ nL (pc + 3) lv (.int (f a j) :: st) w f ca sa) : mm_go E Γ nL pc lv (mm_rf E a :: st) w f ca sa :=
  mm_getf h hf ho hd (by rw [mm_S_int ho ht]; exact kk)
theorem mm_getr (h : mm_ok E Γ cc nL own lev kc ks) {idx k j a r : Nat} (hf : nm_fl own idx k j) (ht : nm_t k j = 1) (ho : mm_is w a k) (hr : mm_r w a j = r) (h0 : 0 < r) (hd : decode cc pc = .ok (.getfield idx, 3)) (kk : mm_go E Γ nL (pc + 3) lv (mm_rf E r :: st) w f ca sa) : mm_go E Γ nL pc lv (mm_rf E a :: st) w f ca sa :=
  mm_getf h hf ho hd (by rw [mm_S_ref ho ht hr h0]; exact kk)
theorem mm_putf (h : mm_ok E Γ cc nL own lev kc ks) {idx k j a : Nat} {v : Value} {w' : mm_W} {f' : mm_F} (hf : nm_fl own idx k j) (hfin : nm_fin k j = false ∨ ((nm_nm k = own) ∧ (mm_me Γ).name = "<init>")) (hn : narrow (nm_ty k j) v = v) (hfit : fits (nm_ty k j) v = true) (ho : mm_is w a k)
    (hn' : mm_n w' = mm_n w) (hkk : ∀ c, mm_k w' c = mm_k w c) (hll : ∀ c, mm_l w' c = mm_l w c) (hSa : mm_S E.2.2.1 w' f' a = updV (mm_S E.2.2.1 w f a) j v) (hSo : ∀ c, c ≠ a → mm_S E.2.2.1 w' f' c = mm_S E.2.2.1 w f c)
    (hd : decode cc pc = .ok (.putfield idx, 3)) (kk : mm_go E Γ nL (pc + 3) lv st w' f' ca sa) : mm_go E Γ nL pc lv (v :: mm_rf E a :: st) w f ca sa := by
  obtain ⟨C, T, N, hc, hj, hC, hlink⟩ := nm_fl_spec hf
  intro ls H locs hl hR hq
  have hts := h.2.2.2.2.1
  have hk100 := mm_lt100 hc
  obtain ⟨cell, q1, q2, q3, q4⟩ := hR.obj ho hk100
  rw [nm_Nk hc] at q4
  have hKn := h.2.2.2.2.2.1.1 k _ hc
  obtain ⟨hS, hfc, kC, hkC, hkind⟩ := hKn
  obtain ⟨cf, kf, fi, fd, hi, hsl⟩ := hS j hj
  have hi' := hi
  rw [hC] at hi'
  have hap : ∀ x y, x < N → y < N → x ≠ y → E.2.1.2 k x ≠ E.2.1.2 k y := by
    intro x y hx hy hne
    obtain ⟨_, _, _, fa, hia, ea⟩ := hS x hx
    obtain ⟨_, _, _, fb, hib, eb⟩ := hS y hy
    rw [← ea, ← eb]
    refine u_apart (u_lays hts (nm_lay hc) hx) (u_lays hts (nm_lay hc) hy) hia hib ?_
    rw [(State.fieldFound?_type hia (nm_tyk hc hx)).1, (State.fieldFound?_type hib (nm_tyk hc hy)).1]
    exact nm_nam hc hx hy hne
  have hst := (u_facts hfc hkC (u_lays hts (nm_lay hc) hj) hi).1
  have hlt : fd.slot < cell.slots.size := by rw [hsl]; exact k2_hasslot (q4 j hj)
  have fin : ∀ H' : Heap, H'[E.2.2.1 + a]? = some (cell.setSlot fd.slot v) → H'.size = H.size → (∀ q, q ≠ E.2.2.1 + a → H'[q]? = H[q]?) →
      W (mm_p Γ) E.1 (mm_e Γ) (mm_rm Γ) (mm_s Γ) (mm_m Γ) (mm_a Γ) (mm_bl Γ) (mm_me Γ) (mm_c Γ) H' (locs ++ [⟨E.2.2.1 + a, fd.slot⟩]) ca sa (mm_q Γ) (F0 (mm_m Γ) (pc + 3) ls st) := by
    intro H' e1 e2 e3
    refine kk ls H' _ hl (hR.put hn' e2 e3 ho.1 ?_ (fun c hne => ⟨hkk c, hll c, hSo c hne⟩)) (fun q hq' => ?_)
    · have hka : mm_k w' a = k := (hkk a).trans ho.2.2
      refine ⟨fun _ => ?_, fun hno => absurd (by rw [hka]; exact hk100) hno⟩
      rw [hka, nm_Nk hc, hSa]
      rw [hsl] at e1
      exact ⟨_, e1, q2, q3, t_set q4 hap hj v⟩
    · rcases List.mem_append.mp hq' with z | z
      · exact hq q z
      · rw [List.mem_singleton.mp z]
        have := ho.1
        show E.2.2.1 < E.2.2.1 + a
        omega
  by_cases hff : (T j).2.2.2 = true
  · have hfin2 : nm_nm k = own ∧ (mm_me Γ).name = "<init>" := by
      rcases hfin with z | z
      · rw [nm_fink hc hj, hff] at z; cases z
      · exact z
    have hlay := hts _ (nm_lay hc _ (u_in_lay hj))
    unfold u_lay at hlay
    rw [if_pos hff] at hlay
    have hcf : (mm_m Γ).cls = cf := by
      obtain ⟨_, _, c', _, _, _, -, -, hf', -, -, -, hown2, -⟩ := Cond.laysFinal_spec hlay
      have e1 : c' = cf := by have := hi.symm.trans hf'; simp at this; exact this.1.symm
      rw [hC] at hown2
      have hno : own = C := by rw [← hfin2.1]; exact nm_nmk hc
      rw [← e1]
      exact Option.some.inj ((hno ▸ h.2.2.2.1).symm.trans hown2)
    have h6 := u_fits hfc hkC hkind (Or.inr hlay) hi (nm_tyk hc hj) hn hfit
    exact W.putFinK h.1 h.2.1 h.2.2.2.1 (hts _ hlink) hi' hst hcf hfin2.2 (by rw [q2]; exact h6) q1 q3 hlt rfl rfl hd fin
  · have hlay := hts _ (nm_lay hc _ (u_in_lay hj))
    unfold u_lay at hlay
    rw [if_neg hff] at hlay
    have h6 := u_store hfc hkC hkind hlay hi (nm_tyk hc hj) hn hfit
    exact W.putK h.1 h.2.1 (f := fd) ⟨h.2.2.2.1, hts _ hlink, ⟨_, _, _, hi'⟩, hst⟩ (by rw [q2]; exact h6) q1 q3 hlt rfl rfl hd fin
theorem mm_puti (h : mm_ok E Γ cc nL own lev kc ks) {idx k j a : Nat} {x : Int32} (hf : nm_fl own idx k j) (hfin : nm_fin k j = false ∨ ((nm_nm k = own) ∧ (mm_me Γ).name = "<init>")) (ht : nm_t k j = 0) (hn : narrow (nm_ty k j) (.int x) = .int x) (hfit : fits (nm_ty k j) (.int x) = true) (ho : mm_is w a k) (hd : decode cc pc = .ok (.putfield idx, 3)) (kk : mm_go E Γ nL (pc + 3) lv st w (mm_up f a j x) ca sa) : mm_go E Γ nL pc lv (.int x :: mm_rf E a :: st) w f ca sa :=
  mm_putf h hf hfin hn hfit ho rfl (fun _ => rfl) (fun _ => rfl) (mm_S_i x (by rw [ho.2.2]; exact ht)) (fun _ hc => mm_S_io x hc) hd kk
theorem mm_putr (h : mm_ok E Γ cc nL own lev kc ks) {idx k j a r : Nat} (hf : nm_fl own idx k j) (hfin : nm_fin k j = false ∨ ((nm_nm k = own) ∧ (mm_me Γ).name = "<init>")) (ht : nm_t k j = 1) (hn : narrow (nm_ty k j) (mm_rf E r) = mm_rf E r) (hfit : fits (nm_ty k j) (mm_rf E r) = true) (ho : mm_is w a k) (hr : 0 < r) (hd : decode cc pc = .ok (.putfield idx, 3)) (kk : mm_go E Γ nL (pc + 3) lv st (mm_sr w a j r) f ca sa) : mm_go E Γ nL pc lv (mm_rf E r :: mm_rf E a :: st) w f ca sa :=
  mm_putf (w' := mm_sr w a j r) h hf hfin hn hfit ho rfl (fun _ => rfl) (fun _ => rfl) (mm_S_r hr (by rw [ho.2.2]; exact ht)) (fun _ hc => mm_S_ro hc) hd kk
/-! arrays -/
theorem mm_iald (h : mm_ok E Γ cc nL own lev kc ks) {a n : Nat} {i : Int32} (ho : mm_ar w a 100 n) (hin : vp_in i n) (hd : decode cc pc = .ok (.iaload, 1)) (kk : mm_go E Γ nL (pc + 1) lv (.int (f a i.toNatClampNeg) :: st) w f ca sa) : mm_go E Γ nL pc lv (.int i :: mm_rf E a :: st) w f ca sa := by
  intro ls H locs hl hR hq
  have hlt : i.toNatClampNeg < n := Nat.not_le.mp fun q => hin (Or.inr q)
  exact W.iald (v := .int (f a i.toNatClampNeg)) h.1 h.2.1 (hR.arr ho (by decide)) ((h.2.2.2.2.2.1.2.1 0 _ nm_at0).1 _ _) (fun q => by cases q) (by rw [arrV_size]; exact hin) (by rw [arrV_read _ _ hlt, mm_S_int ho.1 (nm_t100 _)]) rfl rfl hd (kk ls H locs hl hR hq)
theorem mm_zald (h : mm_ok E Γ cc nL own lev kc ks) {a n : Nat} {i : Int32} (ho : mm_ar w a 101 n) (hin : vp_in i n) (hd : decode cc pc = .ok (.baload, 1)) (kk : mm_go E Γ nL (pc + 1) lv (.int (f a i.toNatClampNeg) :: st) w f ca sa) : mm_go E Γ nL pc lv (.int i :: mm_rf E a :: st) w f ca sa := by
  intro ls H locs hl hR hq
  have hlt : i.toNatClampNeg < n := Nat.not_le.mp fun q => hin (Or.inr q)
  exact W.zald (v := .int (f a i.toNatClampNeg)) h.1 h.2.1 (hR.arr ho (by decide)) ((h.2.2.2.2.2.1.2.1 1 _ nm_at1).1 _ _) (fun q => by cases q) (by rw [arrV_size]; exact hin) (by rw [arrV_read _ _ hlt, mm_S_int ho.1 (nm_t101 _)]) rfl rfl hd (kk ls H locs hl hR hq)
theorem mm_lald (h : mm_ok E Γ cc nL own lev kc ks) {a n : Nat} {i : Int32} (ho : mm_ar w a 102 n) (hin : vp_in i n) (hd : decode cc pc = .ok (.laload, 1)) (kk : mm_go E Γ nL (pc + 1) lv (.long (mm_j w a i.toNatClampNeg) :: st) w f ca sa) : mm_go E Γ nL pc lv (.int i :: mm_rf E a :: st) w f ca sa := by
  intro ls H locs hl hR hq
  have hlt : i.toNatClampNeg < n := Nat.not_le.mp fun q => hin (Or.inr q)
  exact W.lald (v := .long (mm_j w a i.toNatClampNeg)) h.1 h.2.1 (hR.arr ho (by decide)) ((h.2.2.2.2.2.1.2.1 2 _ nm_at2).1 _ _) (fun q => by cases q) (by rw [arrV_size]; exact hin) (by rw [arrV_read _ _ hlt, mm_S_long ho.1 (nm_t102 _)]) rfl rfl hd (kk ls H locs hl hR hq)
theorem mm_aald (h : mm_ok E Γ cc nL own lev kc ks) (t : Nat) {k a n r : Nat} {i : Int32} {ty : FieldType} (hk : k = 100 + t) (hty : nm_at[t]? = some ty) (href : ty.isReference = true) (ht : ∀ j, nm_t k j = 1) (ho : mm_ar w a k n) (hin : vp_in i n) (hr : mm_r w a i.toNatClampNeg = r) (h0 : 0 < r) (hd : decode cc pc = .ok (.aaload, 1)) (kk : mm_go E Γ nL (pc + 1) lv (mm_rf E r :: st) w f ca sa) : mm_go E Γ nL pc lv (.int i :: mm_rf E a :: st) w f ca sa := by
  intro ls H locs hl hR hq
  subst hk
  have hlt : i.toNatClampNeg < n := Nat.not_le.mp fun q => hin (Or.inr q)
  exact W.aald (v := mm_rf E r) (ty := ty) h.1 h.2.1 (hR.arr ho (by omega)) ((h.2.2.2.2.2.1.2.1 t _ hty).1 _ _) href (fun q => by cases q) (by rw [arrV_size]; exact hin) (by rw [arrV_read _ _ hlt, mm_S_ref ho.1 (ht _) hr h0]) rfl rfl hd (kk ls H locs hl hR hq)
theorem mm_arput {H H' : Heap} {k a n j : Nat} {v : Value} {w' : mm_W} {f' : mm_F} (hR : mm_R E.2.1 E.2.2.1 E.2.2.2 w f H) (ho : mm_ar w a k n) (hk : ¬ k < 100) (hn' : mm_n w' = mm_n w) (hkk : ∀ c, mm_k w' c = mm_k w c) (hll : ∀ c, mm_l w' c = mm_l w c) (hSa : mm_S E.2.2.1 w' f' a = updV (mm_S E.2.2.1 w f a) j v) (hSo : ∀ c, c ≠ a → mm_S E.2.2.1 w' f' c = mm_S E.2.2.1 w f c)
    (e1 : H'[E.2.2.1 + a]? = some ((arrV (E.2.1.1 k) n (mm_S E.2.2.1 w f a)).setSlot j v)) (e2 : H'.size = H.size) (e3 : ∀ q, q ≠ E.2.2.1 + a → H'[q]? = H[q]?) : mm_R E.2.1 E.2.2.1 E.2.2.2 w' f' H' := by
  refine hR.put hn' e2 e3 ho.1.1 ?_ (fun c hne => ⟨hkk c, hll c, hSo c hne⟩)
  have hka : mm_k w' a = k := (hkk a).trans ho.1.2.2
  have hla : mm_l w' a = n := (hll a).trans ho.2
  refine ⟨fun hno => absurd (by rw [hka] at hno; exact hno) hk, fun _ => ?_⟩
  rw [hka, hla, hSa, e1, arrV_store]
theorem mm_locs {locs : List Loc} {a j : Nat} (ha : 0 < a) (hq : ∀ q ∈ locs, E.2.2.1 < q.base) : ∀ q ∈ locs ++ [(⟨E.2.2.1 + a, j⟩ : Loc)], E.2.2.1 < q.base := by
  intro q hq'
  rcases List.mem_append.mp hq' with z | z
  · exact hq q z
  · rw [List.mem_singleton.mp z]
    show E.2.2.1 < E.2.2.1 + a
    omega
theorem mm_iast (h : mm_ok E Γ cc nL own lev kc ks) {a n : Nat} {i x : Int32} (ho : mm_ar w a 100 n) (hin : vp_in i n) (hd : decode cc pc = .ok (.iastore, 1)) (kk : mm_go E Γ nL (pc + 1) lv st w (mm_up f a i.toNatClampNeg x) ca sa) : mm_go E Γ nL pc lv (.int x :: .int i :: mm_rf E a :: st) w f ca sa := by
  intro ls H locs hl hR hq
  exact W.iast h.1 h.2.1 (hR.arr ho (by decide)) ((h.2.2.2.2.2.1.2.1 0 _ nm_at0).1 _ _) (fun q => by cases q) (by rw [arrV_size]; exact hin) rfl rfl hd fun H' e1 e2 e3 =>
    kk ls H' _ hl (mm_arput hR ho (by decide) rfl (fun _ => rfl) (fun _ => rfl) (mm_S_i x (by rw [ho.1.2.2]; exact nm_t100 _)) (fun _ hc => mm_S_io x hc) e1 e2 e3) (mm_locs ho.1.1 hq)
theorem mm_zast (h : mm_ok E Γ cc nL own lev kc ks) {a n : Nat} {i x : Int32} (hx : narrow .boolean (.int x) = .int x) (ho : mm_ar w a 101 n) (hin : vp_in i n) (hd : decode cc pc = .ok (.bastore, 1)) (kk : mm_go E Γ nL (pc + 1) lv st w (mm_up f a i.toNatClampNeg x) ca sa) : mm_go E Γ nL pc lv (.int x :: .int i :: mm_rf E a :: st) w f ca sa := by
  intro ls H locs hl hR hq
  exact W.zast h.1 h.2.1 (hR.arr ho (by decide)) ((h.2.2.2.2.2.1.2.1 1 _ nm_at1).1 _ _) (fun q => by cases q) (by rw [arrV_size]; exact hin) rfl rfl hd fun H' e1 e2 e3 =>
    kk ls H' _ hl (mm_arput hR ho (by decide) rfl (fun _ => rfl) (fun _ => rfl) (mm_S_i x (by rw [ho.1.2.2]; exact nm_t101 _)) (fun _ hc => mm_S_io x hc) (by rw [hx] at e1; exact e1) e2 e3) (mm_locs ho.1.1 hq)
theorem mm_last (h : mm_ok E Γ cc nL own lev kc ks) {a n : Nat} {i : Int32} {x : Int64} (ho : mm_ar w a 102 n) (hin : vp_in i n) (hd : decode cc pc = .ok (.lastore, 1)) (kk : mm_go E Γ nL (pc + 1) lv st (mm_sj w a i.toNatClampNeg x) f ca sa) : mm_go E Γ nL pc lv (.long x :: .int i :: mm_rf E a :: st) w f ca sa := by
  intro ls H locs hl hR hq
  exact W.last h.1 h.2.1 (hR.arr ho (by decide)) ((h.2.2.2.2.2.1.2.1 2 _ nm_at2).1 _ _) (fun q => by cases q) (by rw [arrV_size]; exact hin) rfl rfl hd fun H' e1 e2 e3 =>
    kk ls H' _ hl (mm_arput (w' := mm_sj w a i.toNatClampNeg x) hR ho (by decide) rfl (fun _ => rfl) (fun _ => rfl) (mm_S_l x (by rw [ho.1.2.2]; exact nm_t102 _)) (fun _ hc => mm_S_lo hc) e1 e2 e3) (mm_locs ho.1.1 hq)
theorem mm_aast (h : mm_ok E Γ cc nL own lev kc ks) (t : Nat) {k a n v kv : Nat} {i : Int32} {q : vw_C} (hk : k = 100 + t) (hq0 : nm_cl[kv]? = some q) (hty : nm_at[t]? = some (.object q.1)) (ht : ∀ j, nm_t k j = 1) (ho : mm_ar w a k n) (hv : mm_is w v kv) (hin : vp_in i n) (hd : decode cc pc = .ok (.aastore, 1)) (kk : mm_go E Γ nL (pc + 1) lv st (mm_sr w a i.toNatClampNeg v) f ca sa) : mm_go E Γ nL pc lv (mm_rf E v :: .int i :: mm_rf E a :: st) w f ca sa := by
  intro ls H locs hl hR hq
  subst hk
  have hlt : i.toNatClampNeg < n := Nat.not_le.mp fun q => hin (Or.inr q)
  have h0 : ¬ i < 0 := fun q => hin (Or.inl q)
  obtain ⟨cellV, g1, g2, g3, -⟩ := hR.obj hv (mm_lt100 hq0)
  have hcls := (h.2.2.2.2.2.1.1 kv _ hq0).2
  obtain ⟨kA, comp, k1, k2, k3, -⟩ := (h.2.2.2.2.2.1.2.1 t _ hty).2
  have hcomp : comp = E.2.1.1 kv := Option.some.inj (k3.symm.trans hcls.1)
  subst hcomp
  obtain ⟨kC, hkC, -⟩ := hcls.2
  exact W.aast h.1 h.2.1 (hR.arr ho (by omega)) (fun q h => by cases h) (fun h => by cases h) k1 k2 rfl hkC ⟨h0, by rw [arrV_size]; exact hlt⟩ g1 (fun q h => by rw [g3] at h; cases h) (by rw [g2]; exact hkC) (by rw [g2]; exact va_assign hcls) rfl rfl hd fun H' e1 e2 e3 =>
    kk ls H' _ hl (mm_arput (w' := mm_sr w a i.toNatClampNeg v) hR ho (by omega) rfl (fun _ => rfl) (fun _ => rfl) (mm_S_r hv.1 (by rw [ho.1.2.2]; exact ht _)) (fun _ hc => mm_S_ro hc) e1 e2 e3) (mm_locs ho.1.1 hq)
/-! new -/
theorem mm_S_new {b k len j : Nat} : mm_S b (mm_new w k len) (mm_f0 w f) (mm_n w) j = mm_v 0 (nm_t k j) 0 0 0 := by
  have hk : mm_k (mm_new w k len) (mm_n w) = k := by simp [mm_k, mm_new, mm_n]
  have e1 : mm_r (mm_new w k len) (mm_n w) j = 0 := by simp [mm_r, mm_new, mm_n]
  have e2 : mm_j (mm_new w k len) (mm_n w) j = 0 := by simp [mm_j, mm_new, mm_n]
  have e3 : mm_f0 w f (mm_n w) j = 0 := by simp [mm_f0, mm_n]
  unfold mm_S
  rw [hk, e1, e2, e3]
  simp [mm_v]
theorem mm_newc (h : mm_ok E Γ cc nL own lev kc ks) {idx k N : Nat} {q : vw_C} (hq0 : nm_cl[k]? = some q) (hcl : Cond.classLink own idx q.1 ∈ nm_tb) (hins : Cond.instantiable q.1 N ∈ nm_tb) (hini : Cond.initialized q.1 ∈ nm_tb) (h0 : 0 < mm_n w) (hca : ca + 1 ≤ kc) (hsa : sa + N ≤ ks) (hd : decode cc pc = .ok (.new idx, 3))
    (kk : mm_go E Γ nL (pc + 3) lv (mm_rf E (mm_n w) :: st) (mm_new w k 0) (mm_f0 w f) (ca + 1) (sa + N)) : mm_go E Γ nL pc lv st w f ca sa := by
  intro ls H locs hl hR hq
  have hts := h.2.2.2.2.1
  have hKn := h.2.2.2.2.2.1.1 k _ hq0
  have hroom := h.2.2.2.2.2.2.2.2
  refine W.newcK h.1 h.2.1 h.2.2.2.1 (hts _ hcl) (hts _ hins) (hts _ hini) rfl hd (Nat.le_trans hca hroom.1) (Nat.le_trans hsa hroom.2) hKn.2.1 hR.1 fun H1 kC hkC e1 z1 o1 => ?_
  have hk : mm_k (mm_new w k 0) (mm_n w) = k := by simp [mm_k, mm_new, mm_n]
  have hN : nm_N k = q.2.2 := nm_Nk hq0
  refine kk ls H1 locs hl (hR.push (by rw [z1, hR.1]) (fun x hx => o1 x (by rw [← hR.1]; exact hx)) h0 ⟨fun _ => ?_, fun hno => absurd (by rw [hk]; exact mm_lt100 hq0) hno⟩) hq
  rw [hk, hN]
  refine (u_born (nm_ty k) hts (nm_lay hq0) hKn hkC e1 (fun j hj => nm_tyk hq0 hj)).to (fun j hj => ?_)
  rw [nm_dfl hq0 hj, mm_S_new]
theorem mm_newa (h : mm_ok E Γ cc nL own lev kc ks) (t : Nat) {k N : Nat} {n : Int32} {atype : ArrayType} {ty : FieldType} (hk : k = 100 + t) (hat : nm_at[t]? = some ty) (hty : newarray.typeOf atype = ty) (harr : Cond.arrayClass (newarray.typeOf atype) ∈ nm_tb) (hdf : ∀ j, defaultValue ty = mm_v 0 (nm_t k j) 0 0 0) (hn : ¬ n < 0) (hN : n.toNatClampNeg = N) (hb : N * componentBytes ty ≤ 536870912) (h0 : 0 < mm_n w) (hca : ca + 1 ≤ kc) (hsa : sa + N ≤ ks) (hd : decode cc pc = .ok (.newarray atype, 2))
    (hnm : ∀ (U : State) (c : ClassId), va_RA U c ty → U.vm.findClass ("[" ++ ty.toString) = some c)
    (kk : mm_go E Γ nL (pc + 2) lv (mm_rf E (mm_n w) :: st) (mm_new w k N) (mm_f0 w f) (ca + 1) (sa + N)) : mm_go E Γ nL pc lv (.int n :: st) w f ca sa := by
  intro ls H locs hl hR hq
  have hts := h.2.2.2.2.1
  have hroom := h.2.2.2.2.2.2.2.2
  subst hty
  refine va_newaK h.1 h.2.1 (hts _ harr) rfl hd rfl hn hN hb (Nat.le_trans hca hroom.1) (Nat.le_trans hsa hroom.2) hR.1 fun H1 cA e1 z1 o1 hAr hNm => ?_
  have hcA : cA = E.2.1.1 k := by
    subst hk
    exact Option.some.inj (hNm.symm.trans (hnm _ _ (h.2.2.2.2.2.1.2.1 t _ hat).2))
  subst hcA
  have hkk : mm_k (mm_new w k N) (mm_n w) = k := by simp [mm_k, mm_new, mm_n]
  have hll : mm_l (mm_new w k N) (mm_n w) = N := by simp [mm_l, mm_new, mm_n]
  refine kk ls H1 locs hl (hR.push (by rw [z1, hR.1]) (fun x hx => o1 x (by rw [← hR.1]; exact hx)) h0 ⟨fun hno => absurd (by rw [hkk] at hno; exact hno) (by omega), fun _ => ?_⟩) hq
  rw [hkk, hll, e1]
  congr 2
  funext j
  rw [hdf j, mm_S_new]
theorem mm_anew (h : mm_ok E Γ cc nL own lev kc ks) (t : Nat) {k N idx : Nat} {n : Int32} {C : String} (hk : k = 100 + t) (hat : nm_at[t]? = some (.object C)) (hcl : Cond.classLink own idx C ∈ nm_tb) (hov : C ∈ nm_ao) (ht : ∀ j, nm_t k j = 1) (hn : ¬ n < 0) (hN : n.toNatClampNeg = N) (hb : N * 4 ≤ 536870912) (h0 : 0 < mm_n w) (hca : ca + 1 ≤ kc) (hsa : sa + N ≤ ks) (hd : decode cc pc = .ok (.anewarray idx, 3))
    (kk : mm_go E Γ nL (pc + 3) lv (mm_rf E (mm_n w) :: st) (mm_new w k N) (mm_f0 w f) (ca + 1) (sa + N)) : mm_go E Γ nL pc lv (.int n :: st) w f ca sa := by
  intro ls H locs hl hR hq
  have hts := h.2.2.2.2.1
  have hroom := h.2.2.2.2.2.2.2.2
  subst hN
  refine W.anew h.1 h.2.1 h.2.2.2.1 (hts _ hcl) (va_AO.use (h.2.2.2.2.2.1.2.2.2.1 C hov)) rfl hd rfl hn hb (Nat.le_trans hca hroom.1) (Nat.le_trans hsa hroom.2) fun cA kA comp f1 f2 f3 f4 => ?_
  have hcA : cA = E.2.1.1 k := by
    subst hk
    obtain ⟨_, _, -, -, -, z⟩ := (h.2.2.2.2.2.1.2.1 t _ hat).2
    exact Option.some.inj (f1.symm.trans z)
  subst hcA
  generalize hH1 : H.push ({ cls := E.2.1.1 k, slots := Array.replicate n.toNatClampNeg .null, vm := .none } : Cell) = H1
  have z1 : H1.size = H.size + 1 := by rw [← hH1, Array.size_push]
  have e1 : H1[H.size]? = some (arrV (E.2.1.1 k) n.toNatClampNeg (fun _ => .null)) := by rw [← hH1, Array.getElem?_push_size, ← arrV_new]
  have o1 : ∀ q : Nat, q < H.size → H1[q]? = H[q]? := fun q hq => by rw [← hH1, Array.getElem?_push, if_neg (Nat.ne_of_lt hq)]
  have hkk : mm_k (mm_new w k n.toNatClampNeg) (mm_n w) = k := by simp [mm_k, mm_new, mm_n]
  have hll : mm_l (mm_new w k n.toNatClampNeg) (mm_n w) = n.toNatClampNeg := by simp [mm_l, mm_new, mm_n]
  rw [hR.1] at e1 ⊢
  refine kk ls H1 locs hl (hR.push z1 o1 h0 ⟨fun hno => absurd (by rw [hkk] at hno; exact hno) (by omega), fun _ => ?_⟩) hq
  rw [hkk, hll, e1]
  congr 2
  funext j
  rw [mm_S_new, ht]
  rfl
/-! the end of a method -/
theorem mm_iret (h : mm_ok E Γ cc nL own lev kc ks) {Post : Option Value → mm_W → mm_F → Prop} {nm : String} {ty : FieldType} {v : Int32} (he : mm_end E Γ (some ty) kc ks Post nm) (hty : narrow ty (.int v) = .int v) (hd : decode cc pc = .ok (.ireturn, 1)) (hc : ca ≤ kc) (hs : sa ≤ ks) (hp : Post (some (.int v)) w f) : mm_go E Γ nL pc lv [.int v] w f ca sa := by
  intro ls H locs hl hR hq
  refine W.widen hc hs ?_
  refine mm_imp he.1 ?_
  exact W.zret h.1 h.2.1 he.2.1 hty (fun t ht hW => ⟨some (.int v), w, f, rfl, hp, by rw [ht]; exact hR⟩) hq hd he.2.2.1
theorem mm_vret (h : mm_ok E Γ cc nL own lev kc ks) {Post : Option Value → mm_W → mm_F → Prop} {nm : String} (he : mm_end E Γ none kc ks Post nm) (hd : decode cc pc = .ok (.return_, 1)) (hc : ca ≤ kc) (hs : sa ≤ ks) (hp : Post none w f) : mm_go E Γ nL pc lv [] w f ca sa := by
  intro ls H locs hl hR hq
  refine W.widen hc hs ?_
  refine mm_imp he.1 ?_
  exact W.vret h.1 h.2.1 he.2.1 (fun t ht hW => ⟨none, w, f, rfl, hp, by rw [ht]; exact hR⟩) hq hd he.2.2.1
theorem mm_aret (h : mm_ok E Γ cc nL own lev kc ks) {Post : Option Value → mm_W → mm_F → Prop} {nm C : String} {r : Nat} (he : mm_end E Γ (some (.object C)) kc ks Post nm) (hd : decode cc pc = .ok (.areturn, 1)) (hc : ca ≤ kc) (hs : sa ≤ ks) (hp : Post (some (mm_rf E r)) w f) : mm_go E Γ nL pc lv [mm_rf E r] w f ca sa := by
  intro ls H locs hl hR hq
  refine W.widen hc hs ?_
  refine mm_imp he.1 ?_
  exact W.aret h.1 h.2.1 he.2.1 (Or.inl ⟨C, rfl⟩) (Or.inr ⟨_, rfl⟩) (fun t ht hW => ⟨some (mm_rf E r), w, f, rfl, hp, by rw [ht]; exact hR⟩) hq hd he.2.2.1
end MMH
