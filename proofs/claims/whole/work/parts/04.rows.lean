/-! One instruction, a row: the stack and the locals alone. -/
section MMR
variable {E : mm_E} {Γ : mm_G} {cc : ByteArray} {nL pc : Nat} {own : String} {lev kc ks : Nat} {lv : List (Nat × Value)} {st : List Value} {w : mm_W} {f : mm_F} {ca sa : Nat}
theorem mm_iconst (h : mm_ok E Γ cc nL own lev kc ks) {n : Int} {v : Int32} (hd : decode cc pc = .ok (.iconst n, 1)) (hv : Int32.ofInt n = v) (k : mm_go E Γ nL (pc + 1) lv (.int v :: st) w f ca sa) : mm_go E Γ nL pc lv st w f ca sa :=
  fun ls H locs hl hR hq => lv_iconst h.1 h.2.1 hd hv (k ls H locs hl hR hq)
theorem mm_bipush (h : mm_ok E Γ cc nL own lev kc ks) {n : Int} {v : Int32} (hd : decode cc pc = .ok (.bipush n, 2)) (hv : (Int8.ofInt n).toInt32 = v) (k : mm_go E Γ nL (pc + 2) lv (.int v :: st) w f ca sa) : mm_go E Γ nL pc lv st w f ca sa :=
  fun ls H locs hl hR hq => lv_bipush h.1 h.2.1 hd hv (k ls H locs hl hR hq)
theorem mm_sipush (h : mm_ok E Γ cc nL own lev kc ks) {n : Int} {v : Int32} (hd : decode cc pc = .ok (.sipush n, 3)) (hv : (Int16.ofInt n).toInt32 = v) (k : mm_go E Γ nL (pc + 3) lv (.int v :: st) w f ca sa) : mm_go E Γ nL pc lv st w f ca sa :=
  fun ls H locs hl hR hq => lv_sipush h.1 h.2.1 hd hv (k ls H locs hl hR hq)
theorem mm_lconst (h : mm_ok E Γ cc nL own lev kc ks) {n : Fin 2} {v : Int64} (hd : decode cc pc = .ok (.lconst n, 1)) (hv : Int64.ofNat (n : Nat) = v) (k : mm_go E Γ nL (pc + 1) lv (.long v :: st) w f ca sa) : mm_go E Γ nL pc lv st w f ca sa :=
  fun ls H locs hl hR hq => lv_lconst h.1 h.2.1 hd hv (k ls H locs hl hR hq)
theorem mm_iload_n (h : mm_ok E Γ cc nL own lev kc ks) {k0 : Fin 4} {i : Nat} {x : Int32} (hd : decode cc pc = .ok (.iload_n k0, 1)) (q : Nat) (hi : (k0 : Nat) = i) (hv : lv[q]? = some (i, .int x)) (k : mm_go E Γ nL (pc + 1) lv (.int x :: st) w f ca sa) : mm_go E Γ nL pc lv st w f ca sa :=
  fun ls H locs hl hR hq => lv_iload_n h.1 h.2.1 hd hi (lv_at hl q hv) (k ls H locs hl hR hq)
theorem mm_iload (h : mm_ok E Γ cc nL own lev kc ks) {i : Nat} {x : Int32} (hd : decode cc pc = .ok (.iload i, 2)) (q : Nat) (hv : lv[q]? = some (i, .int x)) (k : mm_go E Γ nL (pc + 2) lv (.int x :: st) w f ca sa) : mm_go E Γ nL pc lv st w f ca sa :=
  fun ls H locs hl hR hq => lv_iload h.1 h.2.1 hd (lv_at hl q hv) (k ls H locs hl hR hq)
theorem mm_lload_n (h : mm_ok E Γ cc nL own lev kc ks) {k0 : Fin 4} {i : Nat} {x : Int64} (hd : decode cc pc = .ok (.lload_n k0, 1)) (q : Nat) (hi : (k0 : Nat) = i) (hv : lv[q]? = some (i, .long x)) (k : mm_go E Γ nL (pc + 1) lv (.long x :: st) w f ca sa) : mm_go E Γ nL pc lv st w f ca sa :=
  fun ls H locs hl hR hq => lv_lload_n h.1 h.2.1 hd hi (lv_at hl q hv) (k ls H locs hl hR hq)
theorem mm_lload (h : mm_ok E Γ cc nL own lev kc ks) {i : Nat} {x : Int64} (hd : decode cc pc = .ok (.lload i, 2)) (q : Nat) (hv : lv[q]? = some (i, .long x)) (k : mm_go E Γ nL (pc + 2) lv (.long x :: st) w f ca sa) : mm_go E Γ nL pc lv st w f ca sa :=
  fun ls H locs hl hR hq => lv_lload h.1 h.2.1 hd (lv_at hl q hv) (k ls H locs hl hR hq)
theorem mm_aload_n (h : mm_ok E Γ cc nL own lev kc ks) {k0 : Fin 4} {i : Nat} {x : Nat} (hd : decode cc pc = .ok (.aload_n k0, 1)) (q : Nat) (hi : (k0 : Nat) = i) (hv : lv[q]? = some (i, .ref x)) (k : mm_go E Γ nL (pc + 1) lv (.ref x :: st) w f ca sa) : mm_go E Γ nL pc lv st w f ca sa :=
  fun ls H locs hl hR hq => lv_aload_n h.1 h.2.1 hd hi (lv_at hl q hv) (k ls H locs hl hR hq)
theorem mm_aload (h : mm_ok E Γ cc nL own lev kc ks) {i : Nat} {x : Nat} (hd : decode cc pc = .ok (.aload i, 2)) (q : Nat) (hv : lv[q]? = some (i, .ref x)) (k : mm_go E Γ nL (pc + 2) lv (.ref x :: st) w f ca sa) : mm_go E Γ nL pc lv st w f ca sa :=
  fun ls H locs hl hR hq => lv_aload h.1 h.2.1 hd (lv_at hl q hv) (k ls H locs hl hR hq)
theorem mm_istore_n (h : mm_ok E Γ cc nL own lev kc ks) {k0 : Fin 4} {i : Nat} {x : Int32} {lv' : List (Nat × Value)} (hd : decode cc pc = .ok (.istore_n k0, 1)) (hi : (k0 : Nat) = i) (hn : i < nL) (hl' : (i, Value.int x) :: lv.filter (fun q => !(q.1 == i) && !(q.1 + 1 == i && q.2.category == 2)) = lv') (k : mm_go E Γ nL (pc + 1) lv' st w f ca sa) : mm_go E Γ nL pc lv (.int x :: st) w f ca sa :=
  fun ls H locs hl hR hq => lv_istore_n h.1 h.2.1 hd hi hl hn hl' (fun ls' h' => k ls' H locs h' hR hq)
theorem mm_istore (h : mm_ok E Γ cc nL own lev kc ks) {i : Nat} {x : Int32} {lv' : List (Nat × Value)} (hd : decode cc pc = .ok (.istore i, 2)) (hn : i < nL) (hl' : (i, Value.int x) :: lv.filter (fun q => !(q.1 == i) && !(q.1 + 1 == i && q.2.category == 2)) = lv') (k : mm_go E Γ nL (pc + 2) lv' st w f ca sa) : mm_go E Γ nL pc lv (.int x :: st) w f ca sa :=
  fun ls H locs hl hR hq => lv_istore h.1 h.2.1 hd hl hn hl' (fun ls' h' => k ls' H locs h' hR hq)
theorem mm_lstore_n (h : mm_ok E Γ cc nL own lev kc ks) {k0 : Fin 4} {i : Nat} {x : Int64} {lv' : List (Nat × Value)} (hd : decode cc pc = .ok (.lstore_n k0, 1)) (hi : (k0 : Nat) = i) (hn : i + 1 < nL) (hl' : (i, Value.long x) :: lv.filter (fun q => !(q.1 == i) && (!(q.1 == i + 1) && !(q.1 + 1 == i && q.2.category == 2))) = lv') (k : mm_go E Γ nL (pc + 1) lv' st w f ca sa) : mm_go E Γ nL pc lv (.long x :: st) w f ca sa :=
  fun ls H locs hl hR hq => lv_lstore_n h.1 h.2.1 hd hi hl hn hl' (fun ls' h' => k ls' H locs h' hR hq)
theorem mm_lstore (h : mm_ok E Γ cc nL own lev kc ks) {i : Nat} {x : Int64} {lv' : List (Nat × Value)} (hd : decode cc pc = .ok (.lstore i, 2)) (hn : i + 1 < nL) (hl' : (i, Value.long x) :: lv.filter (fun q => !(q.1 == i) && (!(q.1 == i + 1) && !(q.1 + 1 == i && q.2.category == 2))) = lv') (k : mm_go E Γ nL (pc + 2) lv' st w f ca sa) : mm_go E Γ nL pc lv (.long x :: st) w f ca sa :=
  fun ls H locs hl hR hq => lv_lstore h.1 h.2.1 hd hl hn hl' (fun ls' h' => k ls' H locs h' hR hq)
theorem mm_astore_n (h : mm_ok E Γ cc nL own lev kc ks) {k0 : Fin 4} {i : Nat} {x : Nat} {lv' : List (Nat × Value)} (hd : decode cc pc = .ok (.astore_n k0, 1)) (hi : (k0 : Nat) = i) (hn : i < nL) (hl' : (i, Value.ref x) :: lv.filter (fun q => !(q.1 == i) && !(q.1 + 1 == i && q.2.category == 2)) = lv') (k : mm_go E Γ nL (pc + 1) lv' st w f ca sa) : mm_go E Γ nL pc lv (.ref x :: st) w f ca sa :=
  fun ls H locs hl hR hq => lv_astore_n h.1 h.2.1 hd hi hl hn hl' (fun ls' h' => k ls' H locs h' hR hq)
theorem mm_astore (h : mm_ok E Γ cc nL own lev kc ks) {i : Nat} {x : Nat} {lv' : List (Nat × Value)} (hd : decode cc pc = .ok (.astore i, 2)) (hn : i < nL) (hl' : (i, Value.ref x) :: lv.filter (fun q => !(q.1 == i) && !(q.1 + 1 == i && q.2.category == 2)) = lv') (k : mm_go E Γ nL (pc + 2) lv' st w f ca sa) : mm_go E Γ nL pc lv (.ref x :: st) w f ca sa :=
  fun ls H locs hl hR hq => lv_astore h.1 h.2.1 hd hl hn hl' (fun ls' h' => k ls' H locs h' hR hq)
theorem mm_iinc (h : mm_ok E Γ cc nL own lev kc ks) {i : Nat} {n : Int} {x v : Int32} {lv' : List (Nat × Value)} (hd : decode cc pc = .ok (.iinc i n, 3)) (q : Nat) (hk : lv[q]? = some (i, .int x)) (hv : x + Int32.ofInt n = v) (hn : i < nL) (hl' : (i, Value.int v) :: lv.filter (fun q => !(q.1 == i) && !(q.1 + 1 == i && q.2.category == 2)) = lv') (k : mm_go E Γ nL (pc + 3) lv' st w f ca sa) : mm_go E Γ nL pc lv st w f ca sa :=
  fun ls H locs hl hR hq => lv_iinc h.1 h.2.1 hd hl hk hv hn hl' (fun ls' h' => k ls' H locs h' hR hq)
theorem mm_ishl (h : mm_ok E Γ cc nL own lev kc ks) {x y : Int32} (hd : decode cc pc = .ok (.ishl, 1))  (k : mm_go E Γ nL (pc + 1) lv (.int (x <<< (y &&& 31)) :: st) w f ca sa) : mm_go E Γ nL pc lv (.int y :: .int x :: st) w f ca sa :=
  fun ls H locs hl hR hq => lv_ishl h.1 h.2.1 hd  (k ls H locs hl hR hq)
theorem mm_ishr (h : mm_ok E Γ cc nL own lev kc ks) {x y : Int32} (hd : decode cc pc = .ok (.ishr, 1))  (k : mm_go E Γ nL (pc + 1) lv (.int (x >>> (y &&& 31)) :: st) w f ca sa) : mm_go E Γ nL pc lv (.int y :: .int x :: st) w f ca sa :=
  fun ls H locs hl hR hq => lv_ishr h.1 h.2.1 hd  (k ls H locs hl hR hq)
theorem mm_iadd (h : mm_ok E Γ cc nL own lev kc ks) {x y : Int32} (hd : decode cc pc = .ok (.iadd, 1))  (k : mm_go E Γ nL (pc + 1) lv (.int (x + y) :: st) w f ca sa) : mm_go E Γ nL pc lv (.int y :: .int x :: st) w f ca sa :=
  fun ls H locs hl hR hq => lv_iadd h.1 h.2.1 hd  (k ls H locs hl hR hq)
theorem mm_isub (h : mm_ok E Γ cc nL own lev kc ks) {x y : Int32} (hd : decode cc pc = .ok (.isub, 1))  (k : mm_go E Γ nL (pc + 1) lv (.int (x - y) :: st) w f ca sa) : mm_go E Γ nL pc lv (.int y :: .int x :: st) w f ca sa :=
  fun ls H locs hl hR hq => lv_isub h.1 h.2.1 hd  (k ls H locs hl hR hq)
theorem mm_imul (h : mm_ok E Γ cc nL own lev kc ks) {x y : Int32} (hd : decode cc pc = .ok (.imul, 1))  (k : mm_go E Γ nL (pc + 1) lv (.int (x * y) :: st) w f ca sa) : mm_go E Γ nL pc lv (.int y :: .int x :: st) w f ca sa :=
  fun ls H locs hl hR hq => lv_imul h.1 h.2.1 hd  (k ls H locs hl hR hq)
theorem mm_iand (h : mm_ok E Γ cc nL own lev kc ks) {x y : Int32} (hd : decode cc pc = .ok (.iand, 1))  (k : mm_go E Γ nL (pc + 1) lv (.int (x &&& y) :: st) w f ca sa) : mm_go E Γ nL pc lv (.int y :: .int x :: st) w f ca sa :=
  fun ls H locs hl hR hq => lv_iand h.1 h.2.1 hd  (k ls H locs hl hR hq)
theorem mm_ior (h : mm_ok E Γ cc nL own lev kc ks) {x y : Int32} (hd : decode cc pc = .ok (.ior, 1))  (k : mm_go E Γ nL (pc + 1) lv (.int (x ||| y) :: st) w f ca sa) : mm_go E Γ nL pc lv (.int y :: .int x :: st) w f ca sa :=
  fun ls H locs hl hR hq => lv_ior h.1 h.2.1 hd  (k ls H locs hl hR hq)
theorem mm_ixor (h : mm_ok E Γ cc nL own lev kc ks) {x y : Int32} (hd : decode cc pc = .ok (.ixor, 1))  (k : mm_go E Γ nL (pc + 1) lv (.int (x ^^^ y) :: st) w f ca sa) : mm_go E Γ nL pc lv (.int y :: .int x :: st) w f ca sa :=
  fun ls H locs hl hR hq => lv_ixor h.1 h.2.1 hd  (k ls H locs hl hR hq)
theorem mm_idiv (h : mm_ok E Γ cc nL own lev kc ks) {x y : Int32} (hd : decode cc pc = .ok (.idiv, 1)) (hne : ¬ y = 0) (k : mm_go E Γ nL (pc + 1) lv (.int (x / y) :: st) w f ca sa) : mm_go E Γ nL pc lv (.int y :: .int x :: st) w f ca sa :=
  fun ls H locs hl hR hq => lv_idiv h.1 h.2.1 hd hne (k ls H locs hl hR hq)
theorem mm_ladd (h : mm_ok E Γ cc nL own lev kc ks) {x y : Int64} (hd : decode cc pc = .ok (.ladd, 1))  (k : mm_go E Γ nL (pc + 1) lv (.long (x + y) :: st) w f ca sa) : mm_go E Γ nL pc lv (.long y :: .long x :: st) w f ca sa :=
  fun ls H locs hl hR hq => lv_ladd h.1 h.2.1 hd  (k ls H locs hl hR hq)
theorem mm_lsub (h : mm_ok E Γ cc nL own lev kc ks) {x y : Int64} (hd : decode cc pc = .ok (.lsub, 1))  (k : mm_go E Γ nL (pc + 1) lv (.long (x - y) :: st) w f ca sa) : mm_go E Γ nL pc lv (.long y :: .long x :: st) w f ca sa :=
  fun ls H locs hl hR hq => lv_lsub h.1 h.2.1 hd  (k ls H locs hl hR hq)
theorem mm_lmul (h : mm_ok E Γ cc nL own lev kc ks) {x y : Int64} (hd : decode cc pc = .ok (.lmul, 1))  (k : mm_go E Γ nL (pc + 1) lv (.long (x * y) :: st) w f ca sa) : mm_go E Γ nL pc lv (.long y :: .long x :: st) w f ca sa :=
  fun ls H locs hl hR hq => lv_lmul h.1 h.2.1 hd  (k ls H locs hl hR hq)
theorem mm_i2l (h : mm_ok E Γ cc nL own lev kc ks) {x : Int32} {v : Int64} (hd : decode cc pc = .ok (.i2l, 1)) (hv : x.toInt64 = v) (k : mm_go E Γ nL (pc + 1) lv (.long v :: st) w f ca sa) : mm_go E Γ nL pc lv (.int x :: st) w f ca sa :=
  fun ls H locs hl hR hq => lv_i2l h.1 h.2.1 hd hv (k ls H locs hl hR hq)
theorem mm_lcmp (h : mm_ok E Γ cc nL own lev kc ks) {x y : Int64} (hd : decode cc pc = .ok (.lcmp, 1))  (k : mm_go E Γ nL (pc + 1) lv (.int (lg_cmp x y) :: st) w f ca sa) : mm_go E Γ nL pc lv (.long y :: .long x :: st) w f ca sa :=
  fun ls H locs hl hR hq => W.lcmp h.1 h.2.1 hd  (k ls H locs hl hR hq)
theorem mm_dup (h : mm_ok E Γ cc nL own lev kc ks) {va : Value} (hd : decode cc pc = .ok (.dup, 1)) (hva : va.category = 1) (k : mm_go E Γ nL (pc + 1) lv (va :: va :: st) w f ca sa) : mm_go E Γ nL pc lv (va :: st) w f ca sa :=
  fun ls H locs hl hR hq => lv_dup h.1 h.2.1 hd hva (k ls H locs hl hR hq)
theorem mm_pop (h : mm_ok E Γ cc nL own lev kc ks) {va : Value} (hd : decode cc pc = .ok (.pop, 1)) (hva : va.category = 1) (k : mm_go E Γ nL (pc + 1) lv st w f ca sa) : mm_go E Γ nL pc lv (va :: st) w f ca sa :=
  fun ls H locs hl hR hq => lv_pop h.1 h.2.1 hd hva (k ls H locs hl hR hq)
theorem mm_dup_x1 (h : mm_ok E Γ cc nL own lev kc ks) {va vb : Value} (hd : decode cc pc = .ok (.dup_x1, 1)) (hva : va.category = 1) (hvb : vb.category = 1) (k : mm_go E Γ nL (pc + 1) lv (va :: vb :: va :: st) w f ca sa) : mm_go E Γ nL pc lv (va :: vb :: st) w f ca sa :=
  fun ls H locs hl hR hq => lv_dup_x1 h.1 h.2.1 hd hva hvb (k ls H locs hl hR hq)
theorem mm_dup2 (h : mm_ok E Γ cc nL own lev kc ks) {va vb : Value} (hd : decode cc pc = .ok (.dup2, 1)) (hva : va.category = 1) (hvb : vb.category = 1) (k : mm_go E Γ nL (pc + 1) lv (va :: vb :: va :: vb :: st) w f ca sa) : mm_go E Γ nL pc lv (va :: vb :: st) w f ca sa :=
  fun ls H locs hl hR hq => lv_dup2_11 h.1 h.2.1 hd hva hvb (k ls H locs hl hR hq)
theorem mm_if_eq (h : mm_ok E Γ cc nL own lev kc ks) {x : Int32} {off : Int} {tgt : Nat} (hd : decode cc pc = .ok (.ifCond .eq off, 3)) (ht : (pc : Int) + off = (tgt : Int)) (kt : x = 0 → mm_go E Γ nL tgt lv st w f ca sa) (kf : ¬ x = 0 → mm_go E Γ nL (pc + 3) lv st w f ca sa) : mm_go E Γ nL pc lv (.int x :: st) w f ca sa :=
  fun ls H locs hl hR hq => lv_if_eq h.1 h.2.1 hd ht (fun z => kt z ls H locs hl hR hq) (fun z => kf z ls H locs hl hR hq)
theorem mm_icmp_eq (h : mm_ok E Γ cc nL own lev kc ks) {x y : Int32} {off : Int} {tgt : Nat} (hd : decode cc pc = .ok (.if_icmp .eq off, 3)) (ht : (pc : Int) + off = (tgt : Int)) (kt : x = y → mm_go E Γ nL tgt lv st w f ca sa) (kf : ¬ x = y → mm_go E Γ nL (pc + 3) lv st w f ca sa) : mm_go E Γ nL pc lv (.int y :: .int x :: st) w f ca sa :=
  fun ls H locs hl hR hq => lv_icmp_eq h.1 h.2.1 hd ht (fun z => kt z ls H locs hl hR hq) (fun z => kf z ls H locs hl hR hq)
theorem mm_if_ne (h : mm_ok E Γ cc nL own lev kc ks) {x : Int32} {off : Int} {tgt : Nat} (hd : decode cc pc = .ok (.ifCond .ne off, 3)) (ht : (pc : Int) + off = (tgt : Int)) (kt : ¬ x = 0 → mm_go E Γ nL tgt lv st w f ca sa) (kf : x = 0 → mm_go E Γ nL (pc + 3) lv st w f ca sa) : mm_go E Γ nL pc lv (.int x :: st) w f ca sa :=
  fun ls H locs hl hR hq => lv_if_ne h.1 h.2.1 hd ht (fun z => kt z ls H locs hl hR hq) (fun z => kf z ls H locs hl hR hq)
theorem mm_icmp_ne (h : mm_ok E Γ cc nL own lev kc ks) {x y : Int32} {off : Int} {tgt : Nat} (hd : decode cc pc = .ok (.if_icmp .ne off, 3)) (ht : (pc : Int) + off = (tgt : Int)) (kt : ¬ x = y → mm_go E Γ nL tgt lv st w f ca sa) (kf : x = y → mm_go E Γ nL (pc + 3) lv st w f ca sa) : mm_go E Γ nL pc lv (.int y :: .int x :: st) w f ca sa :=
  fun ls H locs hl hR hq => lv_icmp_ne h.1 h.2.1 hd ht (fun z => kt z ls H locs hl hR hq) (fun z => kf z ls H locs hl hR hq)
theorem mm_if_lt (h : mm_ok E Γ cc nL own lev kc ks) {x : Int32} {off : Int} {tgt : Nat} (hd : decode cc pc = .ok (.ifCond .lt off, 3)) (ht : (pc : Int) + off = (tgt : Int)) (kt : x < 0 → mm_go E Γ nL tgt lv st w f ca sa) (kf : ¬ x < 0 → mm_go E Γ nL (pc + 3) lv st w f ca sa) : mm_go E Γ nL pc lv (.int x :: st) w f ca sa :=
  fun ls H locs hl hR hq => lv_if_lt h.1 h.2.1 hd ht (fun z => kt z ls H locs hl hR hq) (fun z => kf z ls H locs hl hR hq)
theorem mm_icmp_lt (h : mm_ok E Γ cc nL own lev kc ks) {x y : Int32} {off : Int} {tgt : Nat} (hd : decode cc pc = .ok (.if_icmp .lt off, 3)) (ht : (pc : Int) + off = (tgt : Int)) (kt : x < y → mm_go E Γ nL tgt lv st w f ca sa) (kf : ¬ x < y → mm_go E Γ nL (pc + 3) lv st w f ca sa) : mm_go E Γ nL pc lv (.int y :: .int x :: st) w f ca sa :=
  fun ls H locs hl hR hq => lv_icmp_lt h.1 h.2.1 hd ht (fun z => kt z ls H locs hl hR hq) (fun z => kf z ls H locs hl hR hq)
theorem mm_if_ge (h : mm_ok E Γ cc nL own lev kc ks) {x : Int32} {off : Int} {tgt : Nat} (hd : decode cc pc = .ok (.ifCond .ge off, 3)) (ht : (pc : Int) + off = (tgt : Int)) (kt : 0 ≤ x → mm_go E Γ nL tgt lv st w f ca sa) (kf : ¬ 0 ≤ x → mm_go E Γ nL (pc + 3) lv st w f ca sa) : mm_go E Γ nL pc lv (.int x :: st) w f ca sa :=
  fun ls H locs hl hR hq => lv_if_ge h.1 h.2.1 hd ht (fun z => kt z ls H locs hl hR hq) (fun z => kf z ls H locs hl hR hq)
theorem mm_icmp_ge (h : mm_ok E Γ cc nL own lev kc ks) {x y : Int32} {off : Int} {tgt : Nat} (hd : decode cc pc = .ok (.if_icmp .ge off, 3)) (ht : (pc : Int) + off = (tgt : Int)) (kt : y ≤ x → mm_go E Γ nL tgt lv st w f ca sa) (kf : ¬ y ≤ x → mm_go E Γ nL (pc + 3) lv st w f ca sa) : mm_go E Γ nL pc lv (.int y :: .int x :: st) w f ca sa :=
  fun ls H locs hl hR hq => lv_icmp_ge h.1 h.2.1 hd ht (fun z => kt z ls H locs hl hR hq) (fun z => kf z ls H locs hl hR hq)
theorem mm_if_gt (h : mm_ok E Γ cc nL own lev kc ks) {x : Int32} {off : Int} {tgt : Nat} (hd : decode cc pc = .ok (.ifCond .gt off, 3)) (ht : (pc : Int) + off = (tgt : Int)) (kt : 0 < x → mm_go E Γ nL tgt lv st w f ca sa) (kf : ¬ 0 < x → mm_go E Γ nL (pc + 3) lv st w f ca sa) : mm_go E Γ nL pc lv (.int x :: st) w f ca sa :=
  fun ls H locs hl hR hq => lv_if_gt h.1 h.2.1 hd ht (fun z => kt z ls H locs hl hR hq) (fun z => kf z ls H locs hl hR hq)
theorem mm_icmp_gt (h : mm_ok E Γ cc nL own lev kc ks) {x y : Int32} {off : Int} {tgt : Nat} (hd : decode cc pc = .ok (.if_icmp .gt off, 3)) (ht : (pc : Int) + off = (tgt : Int)) (kt : y < x → mm_go E Γ nL tgt lv st w f ca sa) (kf : ¬ y < x → mm_go E Γ nL (pc + 3) lv st w f ca sa) : mm_go E Γ nL pc lv (.int y :: .int x :: st) w f ca sa :=
  fun ls H locs hl hR hq => lv_icmp_gt h.1 h.2.1 hd ht (fun z => kt z ls H locs hl hR hq) (fun z => kf z ls H locs hl hR hq)
theorem mm_if_le (h : mm_ok E Γ cc nL own lev kc ks) {x : Int32} {off : Int} {tgt : Nat} (hd : decode cc pc = .ok (.ifCond .le off, 3)) (ht : (pc : Int) + off = (tgt : Int)) (kt : x ≤ 0 → mm_go E Γ nL tgt lv st w f ca sa) (kf : ¬ x ≤ 0 → mm_go E Γ nL (pc + 3) lv st w f ca sa) : mm_go E Γ nL pc lv (.int x :: st) w f ca sa :=
  fun ls H locs hl hR hq => lv_if_le h.1 h.2.1 hd ht (fun z => kt z ls H locs hl hR hq) (fun z => kf z ls H locs hl hR hq)
theorem mm_icmp_le (h : mm_ok E Γ cc nL own lev kc ks) {x y : Int32} {off : Int} {tgt : Nat} (hd : decode cc pc = .ok (.if_icmp .le off, 3)) (ht : (pc : Int) + off = (tgt : Int)) (kt : x ≤ y → mm_go E Γ nL tgt lv st w f ca sa) (kf : ¬ x ≤ y → mm_go E Γ nL (pc + 3) lv st w f ca sa) : mm_go E Γ nL pc lv (.int y :: .int x :: st) w f ca sa :=
  fun ls H locs hl hR hq => lv_icmp_le h.1 h.2.1 hd ht (fun z => kt z ls H locs hl hR hq) (fun z => kf z ls H locs hl hR hq)
theorem mm_goto (h : mm_ok E Γ cc nL own lev kc ks) {off : Int} {tgt : Nat} (hd : decode cc pc = .ok (.goto off, 3)) (ht : (pc : Int) + off = (tgt : Int)) (k : mm_go E Γ nL tgt lv st w f ca sa) : mm_go E Γ nL pc lv st w f ca sa :=
  fun ls H locs hl hR hq => lv_goto h.1 h.2.1 hd ht (k ls H locs hl hR hq)
theorem mm_ldc (h : mm_ok E Γ cc nL own lev kc ks) {idx : Nat} {v : Int32} (hc : Jvm.Cond.constant own idx v ∈ nm_tb) (hd : decode cc pc = .ok (.ldc idx, 2)) (k : mm_go E Γ nL (pc + 2) lv (.int v :: st) w f ca sa) : mm_go E Γ nL pc lv st w f ca sa :=
  fun ls H locs hl hR hq => lv_ldc h.1 h.2.1 h.2.2.2.1 (h.2.2.2.2.1 _ hc) hd (k ls H locs hl hR hq)
theorem mm_ldc2 (h : mm_ok E Γ cc nL own lev kc ks) {idx : Nat} {v : Int64} (hc : Jvm.Cond.constantLong own idx v ∈ nm_tb) (hd : decode cc pc = .ok (.ldc2_w idx, 3)) (k : mm_go E Γ nL (pc + 3) lv (.long v :: st) w f ca sa) : mm_go E Γ nL pc lv st w f ca sa :=
  fun ls H locs hl hR hq => lv_ldc2 h.1 h.2.1 h.2.2.2.1 (h.2.2.2.2.1 _ hc) hd (k ls H locs hl hR hq)
theorem mm_tin (h : mm_ok E Γ cc nL own lev kc ks) {dflt lo hi : Int} {offs : Array Int} {len : Nat} {x : Int32} {off : Int} {tgt : Nat} (hd : decode cc pc = .ok (.tableswitch dflt lo hi offs, len)) (h1 : ¬ x.toInt < lo) (h2 : ¬ hi < x.toInt) (ho : offs[(x.toInt - lo).toNat]? = some off) (ht : (pc : Int) + off = (tgt : Int)) (k : mm_go E Γ nL tgt lv st w f ca sa) : mm_go E Γ nL pc lv (.int x :: st) w f ca sa :=
  fun ls H locs hl hR hq => lv_tableIn h.1 h.2.1 hd h1 h2 ho ht (k ls H locs hl hR hq)
theorem mm_tout (h : mm_ok E Γ cc nL own lev kc ks) {dflt lo hi : Int} {offs : Array Int} {len : Nat} {x : Int32} {tgt : Nat} (hd : decode cc pc = .ok (.tableswitch dflt lo hi offs, len)) (ho : x.toInt < lo ∨ hi < x.toInt) (ht : (pc : Int) + dflt = (tgt : Int)) (k : mm_go E Γ nL tgt lv st w f ca sa) : mm_go E Γ nL pc lv (.int x :: st) w f ca sa :=
  fun ls H locs hl hR hq => lv_tableOut h.1 h.2.1 hd ho ht (k ls H locs hl hR hq)
theorem mm_lkp (h : mm_ok E Γ cc nL own lev kc ks) {dflt : Int} {ps : Array (Int × Int)} {len : Nat} {x : Int32} {off : Int} {tgt : Nat} (hd : decode cc pc = .ok (.lookupswitch dflt ps, len)) (hp : (ps.toList.zip (ps.toList.drop 1)).all (fun (a, next) => a.1 < next.1) = true) (ho : Op.lookupswitch.offset ps.toList dflt x.toInt = off) (ht : (pc : Int) + off = (tgt : Int)) (k : mm_go E Γ nL tgt lv st w f ca sa) : mm_go E Γ nL pc lv (.int x :: st) w f ca sa :=
  fun ls H locs hl hR hq => lv_lookup h.1 h.2.1 hd hp ho ht (k ls H locs hl hR hq)
theorem mm_sub {lv' : List (Nat × Value)} (is : List Nat) (hl' : lv_pick lv is = lv') (k : mm_go E Γ nL pc lv' st w f ca sa) : mm_go E Γ nL pc lv st w f ca sa :=
  fun ls H locs hl hR hq => k ls H locs (lv_sub hl is hl') hR hq
theorem mm_more {ca' sa' : Nat} (h1 : ca ≤ ca') (h2 : sa ≤ sa') (k : mm_go E Γ nL pc lv st w f ca' sa') : mm_go E Γ nL pc lv st w f ca sa :=
  fun ls H locs hl hR hq => (k ls H locs hl hR hq).widen h1 h2
end MMR
