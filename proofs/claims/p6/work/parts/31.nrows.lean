theorem gn_iconst {X : tq_Cx} {cc : ByteArray} {nL : Nat} {own : String} {kr : Nat} {ws : va_W} {nc ns : Nat} {pc : Nat} {lv : List (Nat × Value)} {st : List Value} {n : Int} {v : Int32} (C : tq_D X cc nL own kr)  (hd : decode cc pc = .ok (.iconst n, 1)) (hv : Int32.ofInt n = v) (g : GoN X nL ws nc ns (pc + 1) lv (.int v :: st)) : GoN X nL ws nc ns pc lv (st) := by
  obtain ⟨p, l, e, R, s, m, args, below, meth, c, A, a, z, Q⟩ := X
  exact fun H locs ls hP hD hS hl => lv_iconst C.1 C.2.1 hd hv (g H locs ls hP hD hS hl)
theorem gn_bipush {X : tq_Cx} {cc : ByteArray} {nL : Nat} {own : String} {kr : Nat} {ws : va_W} {nc ns : Nat} {pc : Nat} {lv : List (Nat × Value)} {st : List Value} {n : Int} {v : Int32} (C : tq_D X cc nL own kr)  (hd : decode cc pc = .ok (.bipush n, 2)) (hv : (Int8.ofInt n).toInt32 = v) (g : GoN X nL ws nc ns (pc + 2) lv (.int v :: st)) : GoN X nL ws nc ns pc lv (st) := by
  obtain ⟨p, l, e, R, s, m, args, below, meth, c, A, a, z, Q⟩ := X
  exact fun H locs ls hP hD hS hl => lv_bipush C.1 C.2.1 hd hv (g H locs ls hP hD hS hl)
theorem gn_sipush {X : tq_Cx} {cc : ByteArray} {nL : Nat} {own : String} {kr : Nat} {ws : va_W} {nc ns : Nat} {pc : Nat} {lv : List (Nat × Value)} {st : List Value} {n : Int} {v : Int32} (C : tq_D X cc nL own kr)  (hd : decode cc pc = .ok (.sipush n, 3)) (hv : (Int16.ofInt n).toInt32 = v) (g : GoN X nL ws nc ns (pc + 3) lv (.int v :: st)) : GoN X nL ws nc ns pc lv (st) := by
  obtain ⟨p, l, e, R, s, m, args, below, meth, c, A, a, z, Q⟩ := X
  exact fun H locs ls hP hD hS hl => lv_sipush C.1 C.2.1 hd hv (g H locs ls hP hD hS hl)
theorem gn_lconst {X : tq_Cx} {cc : ByteArray} {nL : Nat} {own : String} {kr : Nat} {ws : va_W} {nc ns : Nat} {pc : Nat} {lv : List (Nat × Value)} {st : List Value} {n : Fin 2} {v : Int64} (C : tq_D X cc nL own kr)  (hd : decode cc pc = .ok (.lconst n, 1)) (hv : Int64.ofNat n = v) (g : GoN X nL ws nc ns (pc + 1) lv (.long v :: st)) : GoN X nL ws nc ns pc lv (st) := by
  obtain ⟨p, l, e, R, s, m, args, below, meth, c, A, a, z, Q⟩ := X
  exact fun H locs ls hP hD hS hl => lv_lconst C.1 C.2.1 hd hv (g H locs ls hP hD hS hl)
theorem gn_dup {X : tq_Cx} {cc : ByteArray} {nL : Nat} {own : String} {kr : Nat} {ws : va_W} {nc ns : Nat} {pc : Nat} {lv : List (Nat × Value)} {st : List Value} {v : Value} (C : tq_D X cc nL own kr)  (hd : decode cc pc = .ok (.dup, 1)) (hv : v.category = 1) (g : GoN X nL ws nc ns (pc + 1) lv (v :: v :: st)) : GoN X nL ws nc ns pc lv (v :: st) := by
  obtain ⟨p, l, e, R, s, m, args, below, meth, c, A, a, z, Q⟩ := X
  exact fun H locs ls hP hD hS hl => lv_dup C.1 C.2.1 hd hv (g H locs ls hP hD hS hl)
theorem gn_pop {X : tq_Cx} {cc : ByteArray} {nL : Nat} {own : String} {kr : Nat} {ws : va_W} {nc ns : Nat} {pc : Nat} {lv : List (Nat × Value)} {st : List Value} {v : Value} (C : tq_D X cc nL own kr)  (hd : decode cc pc = .ok (.pop, 1)) (hv : v.category = 1) (g : GoN X nL ws nc ns (pc + 1) lv (st)) : GoN X nL ws nc ns pc lv (v :: st) := by
  obtain ⟨p, l, e, R, s, m, args, below, meth, c, A, a, z, Q⟩ := X
  exact fun H locs ls hP hD hS hl => lv_pop C.1 C.2.1 hd hv (g H locs ls hP hD hS hl)
theorem gn_iload_n {X : tq_Cx} {cc : ByteArray} {nL : Nat} {own : String} {kr : Nat} {ws : va_W} {nc ns : Nat} {pc : Nat} {lv : List (Nat × Value)} {st : List Value} {q : Fin 4} {i : Nat} {x : Int32} (C : tq_D X cc nL own kr)  (hd : decode cc pc = .ok (.iload_n q, 1)) (j : Nat) (hi : (q : Nat) = i) (hj : lv[j]? = some (i, .int x)) (g : GoN X nL ws nc ns (pc + 1) lv (.int x :: st)) : GoN X nL ws nc ns pc lv (st) := by
  obtain ⟨p, l, e, R, s, m, args, below, meth, c, A, a, z, Q⟩ := X
  exact fun H locs ls hP hD hS hl => lv_iload_n C.1 C.2.1 hd hi (lv_at hl j hj) (g H locs ls hP hD hS hl)
theorem gn_iload {X : tq_Cx} {cc : ByteArray} {nL : Nat} {own : String} {kr : Nat} {ws : va_W} {nc ns : Nat} {pc : Nat} {lv : List (Nat × Value)} {st : List Value} {i : Nat} {x : Int32} (C : tq_D X cc nL own kr)  (hd : decode cc pc = .ok (.iload i, 2)) (j : Nat) (hj : lv[j]? = some (i, .int x)) (g : GoN X nL ws nc ns (pc + 2) lv (.int x :: st)) : GoN X nL ws nc ns pc lv (st) := by
  obtain ⟨p, l, e, R, s, m, args, below, meth, c, A, a, z, Q⟩ := X
  exact fun H locs ls hP hD hS hl => lv_iload C.1 C.2.1 hd (lv_at hl j hj) (g H locs ls hP hD hS hl)
theorem gn_aload_n {X : tq_Cx} {cc : ByteArray} {nL : Nat} {own : String} {kr : Nat} {ws : va_W} {nc ns : Nat} {pc : Nat} {lv : List (Nat × Value)} {st : List Value} {q : Fin 4} {i : Nat} {x : Nat} (C : tq_D X cc nL own kr)  (hd : decode cc pc = .ok (.aload_n q, 1)) (j : Nat) (hi : (q : Nat) = i) (hj : lv[j]? = some (i, .ref x)) (g : GoN X nL ws nc ns (pc + 1) lv (.ref x :: st)) : GoN X nL ws nc ns pc lv (st) := by
  obtain ⟨p, l, e, R, s, m, args, below, meth, c, A, a, z, Q⟩ := X
  exact fun H locs ls hP hD hS hl => lv_aload_n C.1 C.2.1 hd hi (lv_at hl j hj) (g H locs ls hP hD hS hl)
theorem gn_aload {X : tq_Cx} {cc : ByteArray} {nL : Nat} {own : String} {kr : Nat} {ws : va_W} {nc ns : Nat} {pc : Nat} {lv : List (Nat × Value)} {st : List Value} {i : Nat} {x : Nat} (C : tq_D X cc nL own kr)  (hd : decode cc pc = .ok (.aload i, 2)) (j : Nat) (hj : lv[j]? = some (i, .ref x)) (g : GoN X nL ws nc ns (pc + 2) lv (.ref x :: st)) : GoN X nL ws nc ns pc lv (st) := by
  obtain ⟨p, l, e, R, s, m, args, below, meth, c, A, a, z, Q⟩ := X
  exact fun H locs ls hP hD hS hl => lv_aload C.1 C.2.1 hd (lv_at hl j hj) (g H locs ls hP hD hS hl)
theorem gn_istore_n {X : tq_Cx} {cc : ByteArray} {nL : Nat} {own : String} {kr : Nat} {ws : va_W} {nc ns : Nat} {pc : Nat} {lv : List (Nat × Value)} {st : List Value} (C : tq_D X cc nL own kr) {q : Fin 4} {i : Nat} {x : Int32} (hd : decode cc pc = .ok (.istore_n q, 1)) (lv' : List (Nat × Value)) (hi : (q : Nat) = i) (hn : i < nL) (hl' : (i, Value.int x) :: lv.filter (fun q => !(q.1 == i) && !(q.1 + 1 == i && q.2.category == 2)) = lv') (g : GoN X nL ws nc ns (pc + 1) lv' st) : GoN X nL ws nc ns pc lv (.int x :: st) := by
  obtain ⟨p, l, e, R, s, m, args, below, meth, c, A, a, z, Q⟩ := X
  exact fun H locs ls hP hD hS hl => lv_istore_n C.1 C.2.1 hd hi hl hn hl' (fun ls' hl2 => g H locs ls' hP hD hS hl2)
theorem gn_astore_n {X : tq_Cx} {cc : ByteArray} {nL : Nat} {own : String} {kr : Nat} {ws : va_W} {nc ns : Nat} {pc : Nat} {lv : List (Nat × Value)} {st : List Value} (C : tq_D X cc nL own kr) {q : Fin 4} {i : Nat} {x : Nat} (hd : decode cc pc = .ok (.astore_n q, 1)) (lv' : List (Nat × Value)) (hi : (q : Nat) = i) (hn : i < nL) (hl' : (i, Value.ref x) :: lv.filter (fun q => !(q.1 == i) && !(q.1 + 1 == i && q.2.category == 2)) = lv') (g : GoN X nL ws nc ns (pc + 1) lv' st) : GoN X nL ws nc ns pc lv (.ref x :: st) := by
  obtain ⟨p, l, e, R, s, m, args, below, meth, c, A, a, z, Q⟩ := X
  exact fun H locs ls hP hD hS hl => lv_astore_n C.1 C.2.1 hd hi hl hn hl' (fun ls' hl2 => g H locs ls' hP hD hS hl2)
theorem gn_iinc {X : tq_Cx} {cc : ByteArray} {nL : Nat} {own : String} {kr : Nat} {ws : va_W} {nc ns : Nat} {pc : Nat} {lv : List (Nat × Value)} {st : List Value} (C : tq_D X cc nL own kr) {i j : Nat} {n : Int} {x v : Int32} (hd : decode cc pc = .ok (.iinc i n, 3)) (lv' : List (Nat × Value)) (hj : lv[j]? = some (i, .int x)) (hv : x + Int32.ofInt n = v) (hn : i < nL) (hl' : (i, Value.int v) :: lv.filter (fun q => !(q.1 == i) && !(q.1 + 1 == i && q.2.category == 2)) = lv') (g : GoN X nL ws nc ns (pc + 3) lv' st) : GoN X nL ws nc ns pc lv st := by
  obtain ⟨p, l, e, R, s, m, args, below, meth, c, A, a, z, Q⟩ := X
  exact fun H locs ls hP hD hS hl => lv_iinc C.1 C.2.1 hd hl hj hv hn hl' (fun ls' hl2 => g H locs ls' hP hD hS hl2)
theorem gn_ic_lt {X : tq_Cx} {cc : ByteArray} {nL : Nat} {own : String} {kr : Nat} {ws : va_W} {nc ns : Nat} {pc : Nat} {lv : List (Nat × Value)} {st : List Value} (C : tq_D X cc nL own kr) {x y : Int32} {off : Int} (hd : decode cc pc = .ok (.if_icmp .lt off, 3)) (tgt : Nat) (ht : (pc : Int) + off = (tgt : Int)) (g1 : x < y → GoN X nL ws nc ns tgt lv st) (g2 : ¬ x < y → GoN X nL ws nc ns (pc + 3) lv st) : GoN X nL ws nc ns pc lv (.int y :: .int x :: st) := by
  obtain ⟨p, l, e, R, s, m, args, below, meth, c, A, a, z, Q⟩ := X
  exact fun H locs ls hP hD hS hl => lv_icmp_lt C.1 C.2.1 hd ht (fun h => g1 h H locs ls hP hD hS hl) (fun h => g2 h H locs ls hP hD hS hl)
theorem gn_ic_ge {X : tq_Cx} {cc : ByteArray} {nL : Nat} {own : String} {kr : Nat} {ws : va_W} {nc ns : Nat} {pc : Nat} {lv : List (Nat × Value)} {st : List Value} (C : tq_D X cc nL own kr) {x y : Int32} {off : Int} (hd : decode cc pc = .ok (.if_icmp .ge off, 3)) (tgt : Nat) (ht : (pc : Int) + off = (tgt : Int)) (g1 : y ≤ x → GoN X nL ws nc ns tgt lv st) (g2 : ¬ y ≤ x → GoN X nL ws nc ns (pc + 3) lv st) : GoN X nL ws nc ns pc lv (.int y :: .int x :: st) := by
  obtain ⟨p, l, e, R, s, m, args, below, meth, c, A, a, z, Q⟩ := X
  exact fun H locs ls hP hD hS hl => lv_icmp_ge C.1 C.2.1 hd ht (fun h => g1 h H locs ls hP hD hS hl) (fun h => g2 h H locs ls hP hD hS hl)
theorem gn_ic_gt {X : tq_Cx} {cc : ByteArray} {nL : Nat} {own : String} {kr : Nat} {ws : va_W} {nc ns : Nat} {pc : Nat} {lv : List (Nat × Value)} {st : List Value} (C : tq_D X cc nL own kr) {x y : Int32} {off : Int} (hd : decode cc pc = .ok (.if_icmp .gt off, 3)) (tgt : Nat) (ht : (pc : Int) + off = (tgt : Int)) (g1 : y < x → GoN X nL ws nc ns tgt lv st) (g2 : ¬ y < x → GoN X nL ws nc ns (pc + 3) lv st) : GoN X nL ws nc ns pc lv (.int y :: .int x :: st) := by
  obtain ⟨p, l, e, R, s, m, args, below, meth, c, A, a, z, Q⟩ := X
  exact fun H locs ls hP hD hS hl => lv_icmp_gt C.1 C.2.1 hd ht (fun h => g1 h H locs ls hP hD hS hl) (fun h => g2 h H locs ls hP hD hS hl)
theorem gn_ic_le {X : tq_Cx} {cc : ByteArray} {nL : Nat} {own : String} {kr : Nat} {ws : va_W} {nc ns : Nat} {pc : Nat} {lv : List (Nat × Value)} {st : List Value} (C : tq_D X cc nL own kr) {x y : Int32} {off : Int} (hd : decode cc pc = .ok (.if_icmp .le off, 3)) (tgt : Nat) (ht : (pc : Int) + off = (tgt : Int)) (g1 : x ≤ y → GoN X nL ws nc ns tgt lv st) (g2 : ¬ x ≤ y → GoN X nL ws nc ns (pc + 3) lv st) : GoN X nL ws nc ns pc lv (.int y :: .int x :: st) := by
  obtain ⟨p, l, e, R, s, m, args, below, meth, c, A, a, z, Q⟩ := X
  exact fun H locs ls hP hD hS hl => lv_icmp_le C.1 C.2.1 hd ht (fun h => g1 h H locs ls hP hD hS hl) (fun h => g2 h H locs ls hP hD hS hl)
theorem gn_goto {X : tq_Cx} {cc : ByteArray} {nL : Nat} {own : String} {kr : Nat} {ws : va_W} {nc ns : Nat} {pc : Nat} {lv : List (Nat × Value)} {st : List Value} (C : tq_D X cc nL own kr) {off : Int} (hd : decode cc pc = .ok (.goto off, 3)) (tgt : Nat) (ht : (pc : Int) + off = (tgt : Int)) (g : GoN X nL ws nc ns tgt lv st) : GoN X nL ws nc ns pc lv st := by
  obtain ⟨p, l, e, R, s, m, args, below, meth, c, A, a, z, Q⟩ := X
  exact fun H locs ls hP hD hS hl => lv_goto C.1 C.2.1 hd ht (g H locs ls hP hD hS hl)
theorem gn_sub {X : tq_Cx} {nL : Nat} {ws : va_W} {nc ns : Nat} {pc : Nat} {lv lv' : List (Nat × Value)} {st : List Value} (ks : List Nat) (h : lv_pick lv ks = lv') (g : GoN X nL ws nc ns pc lv' st) : GoN X nL ws nc ns pc lv st := by
  obtain ⟨p, l, e, R, s, m, args, below, meth, c, A, a, z, Q⟩ := X
  exact fun H locs ls hP hD hS hl => g H locs ls hP hD hS (lv_sub hl ks h)
