section
-- CONSTRUCTORS: the world is a list that grows
/-- the links of nest mates' constructors -/
def tq_nl : List (String × Nat × String) := [("TearsQueue", 21, "TearsQueue$Tape"), ("TearsQueue", 28, "TearsQueue$Sightings"), ("TearsQueue", 65, "TearsQueue$Sheet"), ("TearsQueue", 9, "TearsQueue$Evening"), ("TearsQueue$Chances", 21, "TearsQueue$Evening"), ("TearsQueue$Rows", 24, "TearsQueue$Evening"), ("TearsQueue$Tape", 17, "TearsQueue$Evening")]
def tq_N (U : State) : Prop := (∀ q ∈ tq_nl, va_Nw (.methodLinkNest q.1 q.2.1 ⟨q.2.2, "<init>", "()V"⟩ "TearsQueue") U) ∧ va_AO "TearsQueue$Evening" U ∧ va_AO "TearsQueue$Sheet" U
theorem tq_N.warm {s U : State} (hW : s.WarmedH U.vm) (h : tq_N s) : tq_N U := ⟨fun q hq => va_Nw.warmM hW (h.1 q hq), va_AO.moved hW.alike h.2.1, va_AO.moved hW.alike h.2.2⟩
theorem tq_N.same {u U : State} (hv : u.vm = U.vm) (h : tq_N u) : tq_N U := ⟨fun q hq => va_Nw.same rfl hv (h.1 q hq), va_AO.moved (hv ▸ Vm.Alike.refl _) h.2.1, va_AO.moved (hv ▸ Vm.Alike.refl _) h.2.2⟩
/-- what holds at a constructor's body -/
def tq_D (X : tq_Cx) (cc : ByteArray) (nL : Nat) (own : String) (k : Nat) : Prop := match X with
  | (p, _, _, R, s, m, args, _, meth, c, A, a, _, Q) => p.tables.exec = Jvm.exec ∧ c.code = cc ∧ c.maxLocals = nL ∧ s.vm.findClass own = some m.cls ∧ (∀ w ∈ tq_tbl, w.before args s = true) ∧ va_K a.2.1 vwCl (tq_ty a) s ∧ (k ≤ R.frames ∧ 100 * k ≤ R.locals ∧ Q.1.1 ≤ R.cells ∧ Q.1.2 ≤ R.slots) ∧ (∀ q, s.heap.size ≤ q → A q) ∧ meth.name = "<init>" ∧ meth.locks = false ∧ tq_N s
def GoN (X : tq_Cx) (nL : Nat) (ws : va_W) (nc ns : Nat) (pc : Nat) (lv : List (Nat × Value)) (st : List Value) : Prop := match X with
  | (p, l, e, R, s, m, args, below, meth, c, A, a, _, Q) => ∀ (H : Heap) (locs : List Loc) (ls : Array Slot), va_P a.2.1 vwCl ws H → va_D A ws → va_S A s.heap H locs → lv_has ls nL lv → W p l e R s m args below meth c H locs nc ns Q.2 (F0 m pc ls st)
-- the world as a set
theorem va_P_mem {D : va_G} {cl : List vw_C} {ws : va_W} {H : Heap} : va_P D cl ws H ↔ ∀ q ∈ ws, va_at D cl q H := by
  constructor
  · intro h q hq
    obtain ⟨k, hk⟩ := List.mem_iff_getElem?.mp hq
    exact h k q hk
  · intro h k q hk
    exact h q (List.mem_of_getElem? hk)
theorem va_D_mem {A : Nat → Prop} {ws : va_W} : va_D A ws ↔ (ws.map (fun q => q.1)).Nodup ∧ ∀ q ∈ ws, A q.1 := by
  constructor
  · intro ⟨h1, h2⟩
    refine ⟨?_, fun q hq => ?_⟩
    · rw [List.nodup_iff_pairwise_ne, List.pairwise_iff_getElem]
      intro i j hi hj hij e
      simp only [List.length_map] at hi hj
      simp only [List.getElem_map] at e
      have := h1 i j ws[i] ws[j] (List.getElem?_eq_getElem hi) (List.getElem?_eq_getElem hj) e
      omega
    · obtain ⟨k, hk⟩ := List.mem_iff_getElem?.mp hq
      exact h2 k q hk
  · intro ⟨h1, h2⟩
    refine ⟨fun i j p q hi hj e => ?_, fun k q hk => h2 q (List.mem_of_getElem? hk)⟩
    refine tq_ndi h1 (x := p.1) ?_ ?_
    · simp [hi]
    · simp [hj, e]
theorem va_P.perm {D : va_G} {cl : List vw_C} {ws ws' : va_W} {H : Heap} (h : va_P D cl ws H) (hp : ws.Perm ws') : va_P D cl ws' H := va_P_mem.mpr (fun q hq => va_P_mem.mp h q (hp.mem_iff.mpr hq))
theorem va_D.perm {A : Nat → Prop} {ws ws' : va_W} (h : va_D A ws) (hp : ws.Perm ws') : va_D A ws' := by
  obtain ⟨h1, h2⟩ := va_D_mem.mp h
  exact va_D_mem.mpr ⟨(hp.map _).nodup_iff.mp h1, fun q hq => h2 q (hp.mem_iff.mpr hq)⟩
end
section
theorem gn_iconst {X : tq_Cx} {cc : ByteArray} {nL : Nat} {own : String} {kr : Nat} {ws : va_W} {nc ns : Nat} {pc : Nat} {lv : List (Nat × Value)} {st : List Value} {n : Int} {v : Int32} (C : tq_D X cc nL own kr)  (hd : decode cc pc = .ok (.iconst n, 1)) (hv : Int32.ofInt n = v) (g : GoN X nL ws nc ns (pc + 1) lv (.int v :: st)) : GoN X nL ws nc ns pc lv (st) := by
  obtain ⟨p, l, e, R, s, m, args, below, meth, c, A, a, z, Q⟩ := X
  exact fun H locs ls hP hD hS hl => lv_iconst C.1 C.2.1 hd hv (g H locs ls hP hD hS hl)
theorem gn_bipush {X : tq_Cx} {cc : ByteArray} {nL : Nat} {own : String} {kr : Nat} {ws : va_W} {nc ns : Nat} {pc : Nat} {lv : List (Nat × Value)} {st : List Value} {n : Int} {v : Int32} (C : tq_D X cc nL own kr)  (hd : decode cc pc = .ok (.bipush n, 2)) (hv : (Int8.ofInt n).toInt32 = v) (g : GoN X nL ws nc ns (pc + 2) lv (.int v :: st)) : GoN X nL ws nc ns pc lv (st) := by
  obtain ⟨p, l, e, R, s, m, args, below, meth, c, A, a, z, Q⟩ := X
  exact fun H locs ls hP hD hS hl => lv_bipush C.1 C.2.1 hd hv (g H locs ls hP hD hS hl)
theorem gn_sipush {X : tq_Cx} {cc : ByteArray} {nL : Nat} {own : String} {kr : Nat} {ws : va_W} {nc ns : Nat} {pc : Nat} {lv : List (Nat × Value)} {st : List Value} {n : Int} {v : Int32} (C : tq_D X cc nL own kr)  (hd : decode cc pc = .ok (.sipush n, 3)) (hv : (Int16.ofInt n).toInt32 = v) (g : GoN X nL ws nc ns (pc + 3) lv (.int v :: st)) : GoN X nL ws nc ns pc lv (st) := by
  obtain ⟨p, l, e, R, s, m, args, below, meth, c, A, a, z, Q⟩ := X
  exact fun H locs ls hP hD hS hl => lv_sipush C.1 C.2.1 hd hv (g H locs ls hP hD hS hl)
theorem gn_lconst {X : tq_Cx} {cc : ByteArray} {nL : Nat} {own : String} {kr : Nat} {ws : va_W} {nc ns : Nat} {pc : Nat} {lv : List (Nat × Value)} {st : List Value} {n : Fin 2} {v : Int64} (C : tq_D X cc nL own kr)  (hd : decode cc pc = .ok (.lconst n, 1)) (hv : Int64.ofNat n = v) (g : GoN X nL ws nc ns (pc + 1) lv (.long v :: st)) : GoN X nL ws nc ns pc lv (st) := by
  obtain ⟨p, l, e, R, s, m, args, below, meth, c, A, a, z, Q⟩ := X
  exact fun H locs ls hP hD hS hl => lv_lconst C.1 C.2.1 hd hv (g H locs ls hP hD hS hl)
theorem gn_dup {X : tq_Cx} {cc : ByteArray} {nL : Nat} {own : String} {kr : Nat} {ws : va_W} {nc ns : Nat} {pc : Nat} {lv : List (Nat × Value)} {st : List Value} {v : Value} (C : tq_D X cc nL own kr)  (hd : decode cc pc = .ok (.dup, 1)) (hv : v.category = 1) (g : GoN X nL ws nc ns (pc + 1) lv (v :: v :: st)) : GoN X nL ws nc ns pc lv (v :: st) := by
  obtain ⟨p, l, e, R, s, m, args, below, meth, c, A, a, z, Q⟩ := X
  exact fun H locs ls hP hD hS hl => lv_dup C.1 C.2.1 hd hv (g H locs ls hP hD hS hl)
theorem gn_pop {X : tq_Cx} {cc : ByteArray} {nL : Nat} {own : String} {kr : Nat} {ws : va_W} {nc ns : Nat} {pc : Nat} {lv : List (Nat × Value)} {st : List Value} {v : Value} (C : tq_D X cc nL own kr)  (hd : decode cc pc = .ok (.pop, 1)) (hv : v.category = 1) (g : GoN X nL ws nc ns (pc + 1) lv (st)) : GoN X nL ws nc ns pc lv (v :: st) := by
  obtain ⟨p, l, e, R, s, m, args, below, meth, c, A, a, z, Q⟩ := X
  exact fun H locs ls hP hD hS hl => lv_pop C.1 C.2.1 hd hv (g H locs ls hP hD hS hl)
theorem gn_iload_n {X : tq_Cx} {cc : ByteArray} {nL : Nat} {own : String} {kr : Nat} {ws : va_W} {nc ns : Nat} {pc : Nat} {lv : List (Nat × Value)} {st : List Value} {q : Fin 4} {i : Nat} {x : Int32} (C : tq_D X cc nL own kr)  (hd : decode cc pc = .ok (.iload_n q, 1)) (j : Nat) (hi : (q : Nat) = i) (hj : lv[j]? = some (i, .int x)) (g : GoN X nL ws nc ns (pc + 1) lv (.int x :: st)) : GoN X nL ws nc ns pc lv (st) := by
  obtain ⟨p, l, e, R, s, m, args, below, meth, c, A, a, z, Q⟩ := X
  exact fun H locs ls hP hD hS hl => lv_iload_n C.1 C.2.1 hd hi (lv_at hl j hj) (g H locs ls hP hD hS hl)
theorem gn_iload {X : tq_Cx} {cc : ByteArray} {nL : Nat} {own : String} {kr : Nat} {ws : va_W} {nc ns : Nat} {pc : Nat} {lv : List (Nat × Value)} {st : List Value} {i : Nat} {x : Int32} (C : tq_D X cc nL own kr)  (hd : decode cc pc = .ok (.iload i, 2)) (j : Nat) (hj : lv[j]? = some (i, .int x)) (g : GoN X nL ws nc ns (pc + 2) lv (.int x :: st)) : GoN X nL ws nc ns pc lv (st) := by
  obtain ⟨p, l, e, R, s, m, args, below, meth, c, A, a, z, Q⟩ := X
  exact fun H locs ls hP hD hS hl => lv_iload C.1 C.2.1 hd (lv_at hl j hj) (g H locs ls hP hD hS hl)
theorem gn_aload_n {X : tq_Cx} {cc : ByteArray} {nL : Nat} {own : String} {kr : Nat} {ws : va_W} {nc ns : Nat} {pc : Nat} {lv : List (Nat × Value)} {st : List Value} {q : Fin 4} {i : Nat} {x : Nat} (C : tq_D X cc nL own kr)  (hd : decode cc pc = .ok (.aload_n q, 1)) (j : Nat) (hi : (q : Nat) = i) (hj : lv[j]? = some (i, .ref x)) (g : GoN X nL ws nc ns (pc + 1) lv (.ref x :: st)) : GoN X nL ws nc ns pc lv (st) := by
  obtain ⟨p, l, e, R, s, m, args, below, meth, c, A, a, z, Q⟩ := X
  exact fun H locs ls hP hD hS hl => lv_aload_n C.1 C.2.1 hd hi (lv_at hl j hj) (g H locs ls hP hD hS hl)
theorem gn_aload {X : tq_Cx} {cc : ByteArray} {nL : Nat} {own : String} {kr : Nat} {ws : va_W} {nc ns : Nat} {pc : Nat} {lv : List (Nat × Value)} {st : List Value} {i : Nat} {x : Nat} (C : tq_D X cc nL own kr)  (hd : decode cc pc = .ok (.aload i, 2)) (j : Nat) (hj : lv[j]? = some (i, .ref x)) (g : GoN X nL ws nc ns (pc + 2) lv (.ref x :: st)) : GoN X nL ws nc ns pc lv (st) := by
  obtain ⟨p, l, e, R, s, m, args, below, meth, c, A, a, z, Q⟩ := X
  exact fun H locs ls hP hD hS hl => lv_aload C.1 C.2.1 hd (lv_at hl j hj) (g H locs ls hP hD hS hl)
theorem gn_istore_n {X : tq_Cx} {cc : ByteArray} {nL : Nat} {own : String} {kr : Nat} {ws : va_W} {nc ns : Nat} {pc : Nat} {lv : List (Nat × Value)} {st : List Value} (C : tq_D X cc nL own kr) {q : Fin 4} {i : Nat} {x : Int32} (hd : decode cc pc = .ok (.istore_n q, 1)) (lv' : List (Nat × Value)) (hi : (q : Nat) = i) (hn : i < nL) (hl' : (i, Value.int x) :: lv.filter (fun q => !(q.1 == i) && !(q.1 + 1 == i && q.2.category == 2)) = lv') (g : GoN X nL ws nc ns (pc + 1) lv' st) : GoN X nL ws nc ns pc lv (.int x :: st) := by
  obtain ⟨p, l, e, R, s, m, args, below, meth, c, A, a, z, Q⟩ := X
  exact fun H locs ls hP hD hS hl => lv_istore_n C.1 C.2.1 hd hi hl hn hl' (fun ls' hl2 => g H locs ls' hP hD hS hl2)
theorem gn_astore_n {X : tq_Cx} {cc : ByteArray} {nL : Nat} {own : String} {kr : Nat} {ws : va_W} {nc ns : Nat} {pc : Nat} {lv : List (Nat × Value)} {st : List Value} (C : tq_D X cc nL own kr) {q : Fin 4} {i : Nat} {x : Nat} (hd : decode cc pc = .ok (.astore_n q, 1)) (lv' : List (Nat × Value)) (hi : (q : Nat) = i) (hn : i < nL) (hl' : (i, Value.ref x) :: lv.filter (fun q => !(q.1 == i) && !(q.1 + 1 == i && q.2.category == 2)) = lv') (g : GoN X nL ws nc ns (pc + 1) lv' st) : GoN X nL ws nc ns pc lv (.ref x :: st) := by
  obtain ⟨p, l, e, R, s, m, args, below, meth, c, A, a, z, Q⟩ := X
  exact fun H locs ls hP hD hS hl => lv_astore_n C.1 C.2.1 hd hi hl hn hl' (fun ls' hl2 => g H locs ls' hP hD hS hl2)
theorem gn_iinc {X : tq_Cx} {cc : ByteArray} {nL : Nat} {own : String} {kr : Nat} {ws : va_W} {nc ns : Nat} {pc : Nat} {lv : List (Nat × Value)} {st : List Value} (C : tq_D X cc nL own kr) {i j : Nat} {n : Int} {x v : Int32} (hd : decode cc pc = .ok (.iinc i n, 3)) (lv' : List (Nat × Value)) (hj : lv[j]? = some (i, .int x)) (hv : x + Int32.ofInt n = v) (hn : i < nL) (hl' : (i, Value.int v) :: lv.filter (fun q => !(q.1 == i) && !(q.1 + 1 == i && q.2.category == 2)) = lv') (g : GoN X nL ws nc ns (pc + 3) lv' st) : GoN X nL ws nc ns pc lv st := by
  obtain ⟨p, l, e, R, s, m, args, below, meth, c, A, a, z, Q⟩ := X
  exact fun H locs ls hP hD hS hl => lv_iinc C.1 C.2.1 hd hl hj hv hn hl' (fun ls' hl2 => g H locs ls' hP hD hS hl2)
theorem gn_ic_lt {X : tq_Cx} {cc : ByteArray} {nL : Nat} {own : String} {kr : Nat} {ws : va_W} {nc ns : Nat} {pc : Nat} {lv : List (Nat × Value)} {st : List Value} (C : tq_D X cc nL own kr) {x y : Int32} {off : Int} (hd : decode cc pc = .ok (.if_icmp .lt off, 3)) (tgt : Nat) (ht : (pc : Int) + off = (tgt : Int)) (g1 : x < y → GoN X nL ws nc ns tgt lv st) (g2 : ¬ x < y → GoN X nL ws nc ns (pc + 3) lv st) : GoN X nL ws nc ns pc lv (.int y :: .int x :: st) := by
  obtain ⟨p, l, e, R, s, m, args, below, meth, c, A, a, z, Q⟩ := X
  exact fun H locs ls hP hD hS hl => lv_icmp_lt C.1 C.2.1 hd ht (fun h => g1 h H locs ls hP hD hS hl) (fun h => g2 h H locs ls hP hD hS hl)
theorem gn_ic_ge {X : tq_Cx} {cc : ByteArray} {nL : Nat} {own : String} {kr : Nat} {ws : va_W} {nc ns : Nat} {pc : Nat} {lv : List (Nat × Value)} {st : List Value} (C : tq_D X cc nL own kr) {x y : Int32} {off : Int} (hd : decode cc pc = .ok (.if_icmp .ge off, 3)) (tgt : Nat) (ht : (pc : Int) + off = (tgt : Int)) (g1 : y ≤ x → GoN X nL ws nc ns tgt lv st) (g2 : ¬ y ≤ x → GoN X nL ws nc ns (pc + 3) lv st) : GoN X nL ws nc ns pc lv (.int y :: .int x :: st) := by
  obtain ⟨p, l, e, R, s, m, args, below, meth, c, A, a, z, Q⟩ := X
  exact fun H locs ls hP hD hS hl => lv_icmp_ge C.1 C.2.1 hd ht (fun h => g1 h H locs ls hP hD hS hl) (fun h => g2 h H locs ls hP hD hS hl)
theorem gn_ic_gt {X : tq_Cx} {cc : ByteArray} {nL : Nat} {own : String} {kr : Nat} {ws : va_W} {nc ns : Nat} {pc : Nat} {lv : List (Nat × Value)} {st : List Value} (C : tq_D X cc nL own kr) {x y : Int32} {off : Int} (hd : decode cc pc = .ok (.if_icmp .gt off, 3)) (tgt : Nat) (ht : (pc : Int) + off = (tgt : Int)) (g1 : y < x → GoN X nL ws nc ns tgt lv st) (g2 : ¬ y < x → GoN X nL ws nc ns (pc + 3) lv st) : GoN X nL ws nc ns pc lv (.int y :: .int x :: st) := by
  obtain ⟨p, l, e, R, s, m, args, below, meth, c, A, a, z, Q⟩ := X
  exact fun H locs ls hP hD hS hl => lv_icmp_gt C.1 C.2.1 hd ht (fun h => g1 h H locs ls hP hD hS hl) (fun h => g2 h H locs ls hP hD hS hl)
theorem gn_ic_le {X : tq_Cx} {cc : ByteArray} {nL : Nat} {own : String} {kr : Nat} {ws : va_W} {nc ns : Nat} {pc : Nat} {lv : List (Nat × Value)} {st : List Value} (C : tq_D X cc nL own kr) {x y : Int32} {off : Int} (hd : decode cc pc = .ok (.if_icmp .le off, 3)) (tgt : Nat) (ht : (pc : Int) + off = (tgt : Int)) (g1 : x ≤ y → GoN X nL ws nc ns tgt lv st) (g2 : ¬ x ≤ y → GoN X nL ws nc ns (pc + 3) lv st) : GoN X nL ws nc ns pc lv (.int y :: .int x :: st) := by
  obtain ⟨p, l, e, R, s, m, args, below, meth, c, A, a, z, Q⟩ := X
  exact fun H locs ls hP hD hS hl => lv_icmp_le C.1 C.2.1 hd ht (fun h => g1 h H locs ls hP hD hS hl) (fun h => g2 h H locs ls hP hD hS hl)
theorem gn_goto {X : tq_Cx} {cc : ByteArray} {nL : Nat} {own : String} {kr : Nat} {ws : va_W} {nc ns : Nat} {pc : Nat} {lv : List (Nat × Value)} {st : List Value} (C : tq_D X cc nL own kr) {off : Int} (hd : decode cc pc = .ok (.goto off, 3)) (tgt : Nat) (ht : (pc : Int) + off = (tgt : Int)) (g : GoN X nL ws nc ns tgt lv st) : GoN X nL ws nc ns pc lv st := by
  obtain ⟨p, l, e, R, s, m, args, below, meth, c, A, a, z, Q⟩ := X
  exact fun H locs ls hP hD hS hl => lv_goto C.1 C.2.1 hd ht (g H locs ls hP hD hS hl)
theorem gn_sub {X : tq_Cx} {nL : Nat} {ws : va_W} {nc ns : Nat} {pc : Nat} {lv lv' : List (Nat × Value)} {st : List Value} (ks : List Nat) (h : lv_pick lv ks = lv') (g : GoN X nL ws nc ns pc lv' st) : GoN X nL ws nc ns pc lv st := by
  obtain ⟨p, l, e, R, s, m, args, below, meth, c, A, a, z, Q⟩ := X
  exact fun H locs ls hP hD hS hl => g H locs ls hP hD hS (lv_sub hl ks h)
end
section
section NH
variable {X : tq_Cx} {cc : ByteArray} {nL : Nat} {own : String} {kr : Nat} {ws : va_W} {nc ns : Nat} {pc : Nat} {lv : List (Nat × Value)} {st : List Value}
theorem tq_same {D : va_G} {cl : List vw_C} {tys : List (ClassId × FieldType)} {s : State} {cA c1 : ClassId} {ty : FieldType} {t : Nat} (h : va_K D cl (tys ++ [(cA, ty)]) s) (ht : tys[t]? = some (c1, ty)) : cA = c1 := by
  have hl : t < tys.length := (List.getElem?_eq_some_iff.mp ht).1
  have h1 := (h.2 t (c1, ty) (by rw [List.getElem?_append_left hl]; exact ht)).2
  have h2 := (h.2 tys.length (cA, ty) (by simp)).2
  have e : ∀ c : ClassId, va_RA s c ty → s.vm.findClass ("[" ++ ty.toString) = some c := by
    intro c hc
    cases ty with
    | object C => obtain ⟨kA, comp, -, -, -, h4⟩ := hc; exact h4
    | _ => exact hc
  exact Option.some.inj ((e cA h2).symm.trans (e c1 h1))
theorem gn_objInit (C : tq_D X cc nL own kr) (hkr : 1 ≤ kr) {idx b : Nat} (hl : Cond.methodLink own idx Lib.objectInit ∈ tq_tbl) (hin : Cond.instanceMethod Lib.objectInit ∈ tq_tbl) (hco : Cond.code Lib.objectInit ⟨#[0xb1]⟩ 1 none ∈ tq_tbl) (hd : decode cc pc = .ok (.invokespecial idx, 3)) (g : GoN X nL ws nc ns (pc + 3) lv []) : GoN X nL ws nc ns pc lv [.ref b] := by
  obtain ⟨p, l, e, R, s, m, args, below, meth, c, A, a, z, Q⟩ := X
  intro H locs ls hP hD hS hlv
  have hR := C.2.2.2.2.2.2.1
  exact W.objInit C.1 C.2.1 C.2.2.2.1 (C.2.2.2.2.1 _ hl) (C.2.2.2.2.1 _ hin) (C.2.2.2.2.1 _ hco) (g := F0 m pc ls [.ref b]) rfl (by rw [C.2.2.1]; exact hlv.1) rfl hd (Nat.le_trans hkr hR.1) (Nat.le_trans (by show 12 ≤ 100 * kr; omega) hR.2.1) (g H locs ls hP hD hS hlv)
theorem gn_newa (C : tq_D X cc nL own kr) {atype : ArrayType} {ty : FieldType} (hd : decode cc pc = .ok (.newarray atype, 2)) (hty : newarray.typeOf atype = ty) (harr : Cond.arrayClass (newarray.typeOf atype) ∈ tq_tbl) (t : Nat) (ht : (tq_ty (tq_la X))[t]? = some ((tq_la X).2.2 t, ty)) {n : Int32} (N : Nat) (a0 : vp_A) (ha : ∀ cA : ClassId, vp_cell cA a0 = arrV cA N (fun _ => defaultValue ty)) (hn : ¬ n < 0) (hN : n.toNatClampNeg = N) (hby : N * componentBytes ty ≤ 536870912) (hc : nc + 1 ≤ X.2.2.2.2.2.2.2.2.2.2.2.2.2.1.1) (hs : ns + N ≤ X.2.2.2.2.2.2.2.2.2.2.2.2.2.1.2) (g : ∀ q : Nat, GoN X nL (ws ++ [(q, .inl ((tq_la X).2.2 t, a0))]) (nc + 1) (ns + N) (pc + 2) lv (.ref q :: st)) : GoN X nL ws nc ns pc lv (.int n :: st) := by
  obtain ⟨p, l, e, R, s, m, args, below, meth, c, A, a, z, Q⟩ := X
  intro H locs ls hP hD hS hl
  have hR := C.2.2.2.2.2.2.1
  have hK : va_K a.2.1 vwCl (tq_ty a) s := C.2.2.2.2.2.1
  refine va_newa C.1 C.2.1 (C.2.2.2.2.1 _ harr) hty hK hP hD hS C.2.2.2.2.2.2.2.1 ha hn hN hby (Nat.le_trans hc hR.2.2.1) (Nat.le_trans hs hR.2.2.2) hd (fun q cA H1 hK1 hP1 hD1 hS1 => ?_)
  have e1 : cA = a.2.2 t := tq_same hK1 ht
  subst e1
  exact g q H1 locs ls hP1 hD1 hS1 hl
theorem gn_anew (C : tq_D X cc nL own kr) {Cn : String} {index : Nat} (hd : decode cc pc = .ok (.anewarray index, 3)) (hcl : Cond.classLink own index Cn ∈ tq_tbl) (hov : va_AO Cn X.2.2.2.2.1) (t : Nat) (ht : (tq_ty (tq_la X))[t]? = some ((tq_la X).2.2 t, .object Cn)) {n : Int32} (N : Nat) (hn : ¬ n < 0) (hN : n.toNatClampNeg = N) (hby : N * 4 ≤ 536870912) (hc : nc + 1 ≤ X.2.2.2.2.2.2.2.2.2.2.2.2.2.1.1) (hs : ns + N ≤ X.2.2.2.2.2.2.2.2.2.2.2.2.2.1.2) (g : ∀ q : Nat, GoN X nL (ws ++ [(q, .inl ((tq_la X).2.2 t, N, .inr (.inr (.inr (.inr (fun _ => none))))))]) (nc + 1) (ns + N) (pc + 3) lv (.ref q :: st)) : GoN X nL ws nc ns pc lv (.int n :: st) := by
  obtain ⟨p, l, e, R, s, m, args, below, meth, c, A, a, z, Q⟩ := X
  intro H locs ls hP hD hS hl
  have hR := C.2.2.2.2.2.2.1
  have hK : va_K a.2.1 vwCl (tq_ty a) s := C.2.2.2.2.2.1
  refine va_newq C.1 C.2.1 C.2.2.2.1 (C.2.2.2.2.1 _ hcl) hov hK hP hD hS C.2.2.2.2.2.2.2.1 hn hN hby (Nat.le_trans hc hR.2.2.1) (Nat.le_trans hs hR.2.2.2) hd (fun q cA H1 hK1 hP1 hD1 hS1 => ?_)
  have e1 : cA = a.2.2 t := tq_same hK1 ht
  subst e1
  exact g q H1 locs ls hP1 hD1 hS1 hl
theorem gn_new (C : tq_D X cc nL own kr) {Cn : String} {T : u_T} {N ci index : Nat} (hd : decode cc pc = .ok (.new index, 3)) (hcl : Cond.classLink own index Cn ∈ tq_tbl) (hinst : Cond.instantiable Cn N ∈ tq_tbl) (hini : Cond.initialized Cn ∈ tq_tbl) (hin : ∀ w ∈ u_ws Cn T N, w ∈ tq_tbl) (ty : Nat → FieldType) (hty : ∀ k, k < N → parseFieldDescriptor (T k).2.2.1 = some (ty k)) (hvc : vwCl[ci]? = some (Cn, T, N)) (fs : List Value) (hfs : ∀ j, j < N → defaultValue (ty j) = vp_V fs j) (hc : nc + 1 ≤ X.2.2.2.2.2.2.2.2.2.2.2.2.2.1.1) (hs : ns + N ≤ X.2.2.2.2.2.2.2.2.2.2.2.2.2.1.2) (g : ∀ q : Nat, GoN X nL (ws ++ [(q, .inr (ci, fs))]) (nc + 1) (ns + N) (pc + 3) lv (.ref q :: st)) : GoN X nL ws nc ns pc lv st := by
  obtain ⟨p, l, e, R, s, m, args, below, meth, c, A, a, z, Q⟩ := X
  intro H locs ls hP hD hS hl
  have hR := C.2.2.2.2.2.2.1
  have hK : va_K a.2.1 vwCl (tq_ty a) s := C.2.2.2.2.2.1
  exact va_new (ci := ci) C.1 C.2.1 C.2.2.2.2.1 hin ty hty C.2.2.2.1 (C.2.2.2.2.1 _ hcl) (C.2.2.2.2.1 _ hinst) (C.2.2.2.2.1 _ hini) hK hP hD hS C.2.2.2.2.2.2.2.1 hvc hfs (Nat.le_trans hc hR.2.2.1) (Nat.le_trans hs hR.2.2.2) hd (fun q H1 hP1 hD1 hS1 => g q H1 locs ls hP1 hD1 hS1 hl)
theorem gn_put (C : tq_D X cc nL own kr) {h ci : Nat} {fs : List Value} {Cn : String} {T : u_T} {N : Nat} {index : Nat} (hd : decode cc pc = .ok (.putfield index, 3)) (hcl : vwCl[ci]? = some (Cn, T, N)) (hin : ∀ w ∈ u_ws Cn T N, w ∈ tq_tbl) (ty0 : Nat → FieldType) (hty : ∀ k, k < N → parseFieldDescriptor (T k).2.2.1 = some (ty0 k)) (hnm : ∀ a, a < N → ∀ b, b < N → a ≠ b → (T a).2.1 ≠ (T b).2.1) (k : Nat) (hk : k < N) (hlink : Cond.fieldLink own index (T k).1 (T k).2.1 (T k).2.2.1 ∈ tq_tbl) (hfin : (T k).2.2.2 = false) {ty : FieldType} {v : Value} (hdc : parseFieldDescriptor (T k).2.2.1 = some ty) (hn : narrow ty v = v) (hfit : fits ty v = true) (hlen : k < fs.length) (fs' : List Value) (hfs : fs.set k v = fs') (g : GoN X nL ((h, .inr (ci, fs')) :: ws) nc ns (pc + 3) lv st) : GoN X nL ((h, .inr (ci, fs)) :: ws) nc ns pc lv (v :: .ref h :: st) := by
  obtain ⟨p, l, e, R, s, m, args, below, meth, c, A, a, z, Q⟩ := X
  subst hfs
  intro H locs ls hP hD hS hl
  exact va_put (D := a.2.1) (cl := vwCl) (ci := ci) (v := v) (ty := ty) (C := Cn) (T := T) (N := N) C.1 C.2.1 C.2.2.2.2.1 hin ty0 hty hnm C.2.2.2.1 C.2.2.2.2.2.1 hP hD hS 0 rfl hcl k hk (C.2.2.2.2.1 _ hlink) (fun _ h9 => h9) hfin hdc hn hfit hlen hd (fun H2 locs2 hP2 hD2 hS2 => g H2 locs2 ls hP2 hD2 hS2 hl)
theorem gn_putF (C : tq_D X cc nL own kr) {h ci : Nat} {fs : List Value} {Cn : String} {T : u_T} {N : Nat} {index : Nat} (hd : decode cc pc = .ok (.putfield index, 3)) (hcl : vwCl[ci]? = some (Cn, T, N)) (hin : ∀ w ∈ u_ws Cn T N, w ∈ tq_tbl) (ty0 : Nat → FieldType) (hty : ∀ k, k < N → parseFieldDescriptor (T k).2.2.1 = some (ty0 k)) (hnm : ∀ a, a < N → ∀ b, b < N → a ≠ b → (T a).2.1 ≠ (T b).2.1) (k : Nat) (hk : k < N) (hlink : Cond.fieldLink own index (T k).1 (T k).2.1 (T k).2.2.1 ∈ tq_tbl) (hfin : (T k).2.2.2 = true) (hdecl : (T k).1 = own) {ty : FieldType} {v : Value} (hdc : parseFieldDescriptor (T k).2.2.1 = some ty) (hn : narrow ty v = v) (hfit : fits ty v = true) (hlen : k < fs.length) (fs' : List Value) (hfs : fs.set k v = fs') (g : GoN X nL ((h, .inr (ci, fs')) :: ws) nc ns (pc + 3) lv st) : GoN X nL ((h, .inr (ci, fs)) :: ws) nc ns pc lv (v :: .ref h :: st) := by
  obtain ⟨p, l, e, R, s, m, args, below, meth, c, A, a, z, Q⟩ := X
  subst hfs
  intro H locs ls hP hD hS hl
  exact va_putF (D := a.2.1) (cl := vwCl) (ci := ci) (v := v) (ty := ty) (C := Cn) (T := T) (N := N) C.1 C.2.1 C.2.2.2.2.1 hin ty0 hty hnm C.2.2.2.1 C.2.2.2.2.2.1 hP hD hS 0 rfl hcl k hk (C.2.2.2.2.1 _ hlink) (fun _ h9 => h9) hfin C.2.2.2.2.2.2.2.2.1 hdecl hdc hn hfit hlen hd (fun H2 locs2 hP2 hD2 hS2 => g H2 locs2 ls hP2 hD2 hS2 hl)
theorem gn_get (C : tq_D X cc nL own kr) {h ci : Nat} {fs : List Value} {Cn : String} {T : u_T} {N : Nat} {index : Nat} (hd : decode cc pc = .ok (.getfield index, 3)) (hcl : vwCl[ci]? = some (Cn, T, N)) (hin : ∀ w ∈ u_ws Cn T N, w ∈ tq_tbl) (k : Nat) (hk : k < N) (hlink : Cond.fieldLink own index (T k).1 (T k).2.1 (T k).2.2.1 ∈ tq_tbl) {v : Value} (hv : fs[k]? = some v) (g : GoN X nL ((h, .inr (ci, fs)) :: ws) nc ns (pc + 3) lv (v :: st)) : GoN X nL ((h, .inr (ci, fs)) :: ws) nc ns pc lv (.ref h :: st) := by
  obtain ⟨p, l, e, R, s, m, args, below, meth, c, A, a, z, Q⟩ := X
  intro H locs ls hP hD hS hl
  exact va_get (D := a.2.1) (cl := vwCl) (ci := ci) (v := v) (C := Cn) (T := T) (N := N) C.1 C.2.1 C.2.2.2.2.1 hin C.2.2.2.1 C.2.2.2.2.2.1 hP 0 rfl hcl k hk (C.2.2.2.2.1 _ hlink) (fun _ h9 => h9) hv hd (g H locs ls hP hD hS hl)
/-- an object into an array of references, by their places -/
theorem gn_aast (C : tq_D X cc nL own kr) {b v n t ci : Nat} {r : vw_C} {vs : List Value} {f : Nat → Option Nat} {i : Int32} (hd : decode cc pc = .ok (.aastore, 1)) (q0 qk : Nat) (ha : ws[q0]? = some (b, .inl ((tq_la X).2.2 t, n, .inr (.inr (.inr (.inr f)))))) (ht : (tq_ty (tq_la X))[t]? = some ((tq_la X).2.2 t, .object r.1)) (hv : ws[qk]? = some (v, .inr (ci, vs))) (hvc : vwCl[ci]? = some r) (hin : vp_in i n) (ws' : va_W) (hws : ws.set q0 (b, .inl ((tq_la X).2.2 t, n, .inr (.inr (.inr (.inr (va_up f i.toNatClampNeg (some v))))))) = ws') (g : GoN X nL ws' nc ns (pc + 1) lv st) : GoN X nL ws nc ns pc lv (.ref v :: .int i :: .ref b :: st) := by
  obtain ⟨p, l, e, R, s, m, args, below, meth, c, A, a, z, Q⟩ := X
  subst hws
  intro H locs ls hP hD hS hl
  exact va_astq C.1 C.2.1 C.2.2.2.2.2.1 hP hD hS q0 t qk ci ha ht hv hvc hin hd (fun H2 locs2 hP2 hD2 hS2 => g H2 locs2 ls hP2 hD2 hS2 hl)
theorem gn_iast (C : tq_D X cc nL own kr) {b n : Nat} {f : Nat → Int32} {i x : Int32} (hd : decode cc pc = .ok (.iastore, 1)) (q0 : Nat) (ha : ws[q0]? = some (b, .inl ((tq_la X).2.2 0, n, .inl f))) (hin : vp_in i n) (ws' : va_W) (hws : ws.set q0 (b, .inl ((tq_la X).2.2 0, n, .inl (upd f i.toNatClampNeg x))) = ws') (g : GoN X nL ws' nc ns (pc + 1) lv st) : GoN X nL ws nc ns pc lv (.int x :: .int i :: .ref b :: st) := by
  obtain ⟨p, l, e, R, s, m, args, below, meth, c, A, a, z, Q⟩ := X
  subst hws
  intro H locs ls hP hD hS hl
  exact va_iast C.1 C.2.1 C.2.2.2.2.2.1 hP hD hS q0 0 ha rfl hin hd (fun H2 locs2 hP2 hD2 hS2 => g H2 locs2 ls hP2 hD2 hS2 hl)
end NH
end
section
-- A CONSTRUCTOR'S CONTRACT: out of the fresh object at h it makes the cells W1 a h u (u: the addresses of what it made)
abbrev tq_rmI (k mc ms : Nat) : Room := { frames := k, cells := mc, slots := ms, locals := 100 * k }
abbrev tq_fr (h ci : Nat) (df : List Value) : va_W := [(h, .inr (ci, df))]
def tq_PrI (a : tq_La) (h sz ci : Nat) (df : List Value) (U : State) : Prop := U.heap.size = sz ∧ va_P a.2.1 vwCl (tq_fr h ci df) U.heap ∧ va_K a.2.1 vwCl (tq_ty a) U ∧ va_D (fun _ => True) (tq_fr h ci df) ∧ tq_N U
def tq_MI (y : MethodName) (cc : ByteArray) (n k mc ms ci : Nat) (df : List Value) (W1 : tq_La → Nat → (Nat → Nat) → va_W) : Prop :=
  ∀ (l : Launch) (a : tq_La) (h sz : Nat), Met l y (tq_ws y cc n none) (tq_rmI k mc ms) (va_Pc [.ref h] (tq_PrI a h sz ci df)) (va_Qv (fun _ : Nat → Nat => True) (fun u t => va_P a.2.1 vwCl (W1 a h u) t.heap ∧ va_D (va_A (tq_fr h ci df) sz) (W1 a h u)) (va_A (tq_fr h ci df) sz)) mc ms (va_A (tq_fr h ci df) sz)
theorem tq_blindI {a : tq_La} {h sz ci : Nat} {df : List Value} {av : List Value} : FrameBlind (va_Pc av (tq_PrI a h sz ci df)) := by
  intro v U g mk hh
  obtain ⟨h0, h1, h2, h3, h4, h5⟩ := hh
  exact ⟨h0, h1, h2, va_K.moved (u := U) (U := U.calling g mk v) (Vm.Alike.refl U.vm) h3, h4, h5.same rfl⟩
/-- its end -/
def tq_RI (X : tq_Cx) (cc : ByteArray) (nL : Nat) (W1 : tq_La → Nat → (Nat → Nat) → va_W) (h mc ms : Nat) : Prop := ∀ (u : Nat → Nat) (pc : Nat) (lv : List (Nat × Value)), decode cc pc = .ok (.return_, 1) → GoN X nL (W1 (tq_la X) h u) mc ms pc lv []
theorem tq_mkC {y : MethodName} {cc : ByteArray} {n k mc ms ci : Nat} {df : List Value} {W1 : tq_La → Nat → (Nat → Nat) → va_W} (hy : plainName y.cls = true) (hy2 : y.name = "<init>") (hn : 1 ≤ n) (h : ∀ (X : tq_Cx) (h : Nat), tq_D X cc n y.cls k → X.2.2.2.2.2.2.2.2.2.2.2.2.2.1 = (mc, ms) → tq_RI X cc n W1 h mc ms → GoN X n (tq_fr h ci df) 0 0 0 [(0, .ref h)] []) : tq_MI y cc n k mc ms ci df W1 := by
  intro l a h0 sz
  refine Met.ofW (cc := cc) (maxL := n) (ret := none) hy rfl ?_
  intro p e s m args below meth c s₁ B hml hv
  obtain ⟨rfl, hsz, hP, hK, hD0, hN⟩ := hv
  have hts := atoms_spec (ws := tq_ws y cc n none) B.pre
  have hown : s.vm.findClass y.cls = some m.cls := findClass_of_methodNamed B.named
  have hnm : meth.name = "<init>" := by rw [← hy2]; exact (name_of_methodNamed B.named B.method).1
  subst hsz
  have hD := hD0.self (sz := s.heap.size)
  have hA : ∀ q : Nat, s.heap.size ≤ q → va_A (tq_fr h0 ci df) s.heap.size q := fun q h => Or.inr h
  have hg := h (p, l, e, (headSpec (tq_ws y cc n none) (tq_rmI k mc ms)).room, s, m, ([.ref h0] : List Value).toArray, below, meth, c, va_A (tq_fr h0 ci df) s.heap.size, a, (0, fun _ => 0, fun _ => 0, none), (mc, ms), MQ below (va_Qv (fun _ : Nat → Nat => True) (fun u t => va_P a.2.1 vwCl (W1 a h0 u) t.heap ∧ va_D (va_A (tq_fr h0 ci df) s.heap.size) (W1 a h0 u)) (va_A (tq_fr h0 ci df) s.heap.size)) ([.ref h0] : List Value).toArray s mc ms (va_A (tq_fr h0 ci df) s.heap.size)) h0 ⟨B.exec, B.bytes, hml, hown, fun w hw => hts w (List.mem_cons_of_mem _ hw), hK, ⟨Nat.le_refl _, Nat.le_refl _, Nat.le_refl _, Nat.le_refl _⟩, hA, hnm, B.notSynchronized, hN⟩ rfl ?_
  · have hl := lv_entry ([.ref h0]) (n := n) hn
    rw [lg_entry_eq]
    exact hg s.heap [] _ hP hD va_S.rf hl
  · intro u pc lv hd H locs ls hP1 hD1 hS1 hl
    exact W.vret B.exec B.bytes B.returns (fun t ht hW => ⟨⟨u, rfl, trivial, by rw [ht]; exact hP1, hD1⟩, hS1.F ht⟩) hS1.2.2 hd B.notSynchronized
theorem va_nd_of : ∀ {l : List Nat}, l.Nodup → va_nd l = true
  | [], _ => rfl
  | a :: l, h => by
    obtain ⟨h1, h2⟩ := List.nodup_cons.mp h
    simp [va_nd, h1, va_nd_of h2]
/-- behind a constructor: what was there, and the cells that it made -/
theorem va_joinC {A0 : Nat → Prop} {D : va_G} {cl : List vw_C} {ws w1 : va_W} {c : Nat × va_E} {H H1 : Heap} (hP : va_P D cl (ws ++ [c]) H) (hD : va_D A0 (ws ++ [c])) (hk : ∀ q : Nat, q < H.size → ¬ va_A [c] H.size q → H1[q]? = H[q]?) (hF : ∀ q, va_A [c] H.size q → A0 q) (hP1 : va_P D cl w1 H1) (hD1 : va_D (va_A [c] H.size) w1) : va_P D cl (ws ++ w1) H1 ∧ va_D A0 (ws ++ w1) := by
  refine va_join (ws := ws ++ [c]) (wc := [c]) (wr := ws) hP hD [ws.length] (List.range ws.length) (by simp) ?_ ?_ ?_ hk hF hP1 hD1
  · apply List.ext_getElem?
    intro j
    by_cases hj : j < ws.length
    · simp [hj, List.getElem?_append_left hj]
    · simp [hj]
  · exact va_nd_of (List.nodup_range)
  · intro i hi
    have := List.mem_range.mp hi
    simp
    omega
section NC
variable {X : tq_Cx} {cc : ByteArray} {nL : Nat} {own : String} {kr : Nat} {ws : va_W} {nc ns : Nat} {pc : Nat} {lv : List (Nat × Value)} {st : List Value}
variable {y : MethodName} {cy : ByteArray} {n k mc ms ci : Nat} {df : List Value} {W1 : tq_La → Nat → (Nat → Nat) → va_W}
theorem gn_init (C : tq_D X cc nL own kr) {index q : Nat} (hM : tq_MI y cy n k mc ms ci df W1) (hl : Cond.methodLink own index y ∈ tq_tbl) (hini : Cond.initialized y.cls ∈ tq_tbl) (hin : Cond.instanceMethod y ∈ tq_tbl) (hco : Cond.code y cy n none ∈ tq_tbl) (hd0 : y.cls ≠ "java/lang/invoke/MethodHandle" ∧ y.cls ≠ "java/lang/invoke/VarHandle" ∧ (parseMethodDescriptor y.desc).map (fun d => d.parameters.length) = some 0) (hy1 : y.name = "<init>") (hrk : tq_rk k kr n = true) (hrm : Nat.ble ((st.map fun v => v.category).sum) 8 = true) (hc : nc + mc ≤ X.2.2.2.2.2.2.2.2.2.2.2.2.2.1.1) (hs : ns + ms ≤ X.2.2.2.2.2.2.2.2.2.2.2.2.2.1.2) (hd : decode cc pc = .ok (.invokespecial index, 3)) (g : ∀ u, GoN X nL (ws ++ W1 (tq_la X) q u) (nc + mc) (ns + ms) (pc + 3) lv st) : GoN X nL (ws ++ [(q, .inr (ci, df))]) nc ns pc lv (.ref q :: st) := by
  obtain ⟨p, l, e, R, s, m, args, below, meth, c, A, a, z, Q⟩ := X
  intro H locs ls hP hD hS hlv
  have hR := C.2.2.2.2.2.2.1
  have hK : va_K a.2.1 vwCl (tq_ty a) s := C.2.2.2.2.2.1
  have hPc : va_P a.2.1 vwCl (tq_fr q ci df) H := va_P_mem.mpr (fun x hx => va_P_mem.mp hP x (List.mem_append_right _ hx))
  have hDc : va_D (fun _ => True) (tq_fr q ci df) := va_D_mem.mpr ⟨by simp, fun _ _ => trivial⟩
  have hF : ∀ x, va_A (tq_fr q ci df) H.size x → A x := by
    intro x hx
    rcases hx with ⟨k9, e9, h9⟩ | h9
    · exact (va_D_mem.mp hD).2 (x, e9) (List.mem_append_right _ (List.mem_of_getElem? h9))
    · exact C.2.2.2.2.2.2.2.1 x (Nat.le_trans hS.1 h9)
  have hGd : GoodIn tq_tbl (tq_ws y cy n none) := fun w hw => by
    rcases List.mem_cons.mp hw with rfl | h2
    · exact ⟨hco, good_of_word (List.mem_filter.mp hco).2⟩
    · exact tq_gT w h2
  refine va_callv (va_runI (As := []) (rest := st) ⟨C.1, C.2.1, C.2.2.1, C.2.2.2.1, C.2.2.2.2.1⟩ (hM l a q H.size) (cwI 0 C.2.2.2.2.1 hGd rfl rfl rfl (C.2.2.2.2.1 _ hini) (C.2.2.2.2.1 _ hl) (C.2.2.2.2.1 _ hin) hy1 hd0 ⟨Nat.le_trans (tq_rk_ok hrk).1 hR.1, Nat.le_trans (tq_rk_ok hrk).2 hR.2.1⟩) ⟨tq_blindI, fun U hU hW => ⟨rfl, by rw [hU], by rw [hU]; exact hPc, va_K.moved hW.alike hK, hDc, (C.2.2.2.2.2.2.2.2.2.2).warm hW⟩⟩ rfl rfl hlv.1 rfl (lv_room (Nat.le_of_ble_eq_true hrm)) hd ⟨Nat.le_trans hc hR.2.2.1, Nat.le_trans hs hR.2.2.2⟩) hS (fun x _ h => hF x h) hF (fun u t H1 locs1 ht hvm hw2 hB hz1 hk1 hS1 => ?_)
  obtain ⟨hP1, hD1⟩ := hB
  rw [ht] at hP1
  obtain ⟨hP2, hD2⟩ := va_joinC hP hD hk1 hF hP1 hD1
  exact g u H1 locs1 ls hP2 hD2 hS1 hlv
theorem gn_initN (C : tq_D X cc nL own kr) {index q : Nat} {host : String} (hM : tq_MI y cy n k mc ms ci df W1) (hl : va_Nw (.methodLinkNest own index y host) X.2.2.2.2.1) (hini : Cond.initialized y.cls ∈ tq_tbl) (hin : Cond.instanceMethod y ∈ tq_tbl) (hco : Cond.code y cy n none ∈ tq_tbl) (hd0 : y.cls ≠ "java/lang/invoke/MethodHandle" ∧ y.cls ≠ "java/lang/invoke/VarHandle" ∧ (parseMethodDescriptor y.desc).map (fun d => d.parameters.length) = some 0) (hy1 : y.name = "<init>") (hrk : tq_rk k kr n = true) (hrm : Nat.ble ((st.map fun v => v.category).sum) 8 = true) (hc : nc + mc ≤ X.2.2.2.2.2.2.2.2.2.2.2.2.2.1.1) (hs : ns + ms ≤ X.2.2.2.2.2.2.2.2.2.2.2.2.2.1.2) (hd : decode cc pc = .ok (.invokespecial index, 3)) (g : ∀ u, GoN X nL (ws ++ W1 (tq_la X) q u) (nc + mc) (ns + ms) (pc + 3) lv st) : GoN X nL (ws ++ [(q, .inr (ci, df))]) nc ns pc lv (.ref q :: st) := by
  obtain ⟨p, l, e, R, s, m, args, below, meth, c, A, a, z, Q⟩ := X
  intro H locs ls hP hD hS hlv
  have hR := C.2.2.2.2.2.2.1
  have hK : va_K a.2.1 vwCl (tq_ty a) s := C.2.2.2.2.2.1
  have hPc : va_P a.2.1 vwCl (tq_fr q ci df) H := va_P_mem.mpr (fun x hx => va_P_mem.mp hP x (List.mem_append_right _ hx))
  have hDc : va_D (fun _ => True) (tq_fr q ci df) := va_D_mem.mpr ⟨by simp, fun _ _ => trivial⟩
  have hF : ∀ x, va_A (tq_fr q ci df) H.size x → A x := by
    intro x hx
    rcases hx with ⟨k9, e9, h9⟩ | h9
    · exact (va_D_mem.mp hD).2 (x, e9) (List.mem_append_right _ (List.mem_of_getElem? h9))
    · exact C.2.2.2.2.2.2.2.1 x (Nat.le_trans hS.1 h9)
  have hGd : GoodIn tq_tbl (tq_ws y cy n none) := fun w hw => by
    rcases List.mem_cons.mp hw with rfl | h2
    · exact ⟨hco, good_of_word (List.mem_filter.mp hco).2⟩
    · exact tq_gT w h2
  refine va_callv (va_runIN (As := []) (rest := st) ⟨C.1, C.2.1, C.2.2.1, C.2.2.2.1, C.2.2.2.2.1⟩ (hM l a q H.size) ⟨va_cnB 0 C.2.2.2.2.1 hGd rfl rfl rfl hl (C.2.2.2.2.1 _ hini) hd0 ⟨Nat.le_trans (tq_rk_ok hrk).1 hR.1, Nat.le_trans (tq_rk_ok hrk).2 hR.2.1⟩, hy1, C.2.2.2.2.1 _ hin⟩ ⟨tq_blindI, fun U hU hW => ⟨rfl, by rw [hU], by rw [hU]; exact hPc, va_K.moved hW.alike hK, hDc, (C.2.2.2.2.2.2.2.2.2.2).warm hW⟩⟩ rfl rfl hlv.1 rfl (lv_room (Nat.le_of_ble_eq_true hrm)) hd ⟨Nat.le_trans hc hR.2.2.1, Nat.le_trans hs hR.2.2.2⟩) hS (fun x _ h => hF x h) hF (fun u t H1 locs1 ht hvm hw2 hB hz1 hk1 hS1 => ?_)
  obtain ⟨hP1, hD1⟩ := hB
  rw [ht] at hP1
  obtain ⟨hP2, hD2⟩ := va_joinC hP hD hk1 hF hP1 hD1
  exact g u H1 locs1 ls hP2 hD2 hS1 hlv
end NC
end
section
theorem tq_Nn {X : tq_Cx} {cc : ByteArray} {nL k : Nat} {own : String} (C : tq_D X cc nL own k) : ∀ q ∈ tq_nl, va_Nw (.methodLinkNest q.1 q.2.1 ⟨q.2.2, "<init>", "()V"⟩ "TearsQueue") X.2.2.2.2.1 := by
  obtain ⟨p, l, e, R, s, m, args, below, meth, c, A, a, z, Q⟩ := X
  exact C.2.2.2.2.2.2.2.2.2.2.1
theorem tq_AOX1 {X : tq_Cx} {cc : ByteArray} {nL k : Nat} {own : String} (C : tq_D X cc nL own k) : va_AO "TearsQueue$Evening" X.2.2.2.2.1 := by
  obtain ⟨p, l, e, R, s, m, args, below, meth, c, A, a, z, Q⟩ := X
  exact C.2.2.2.2.2.2.2.2.2.2.2.1
theorem tq_AOX3 {X : tq_Cx} {cc : ByteArray} {nL k : Nat} {own : String} (C : tq_D X cc nL own k) : va_AO "TearsQueue$Sheet" X.2.2.2.2.1 := by
  obtain ⟨p, l, e, R, s, m, args, below, meth, c, A, a, z, Q⟩ := X
  exact C.2.2.2.2.2.2.2.2.2.2.2.2
theorem df_X1 : ∀ j, j < 14 → defaultValue (tyX1 j) = vp_V [.null, .null, .null, .null, .null, .int 0, .int 0, .int 0, .int 0, .int 0, .int 0, .int 0, .int 0, .int 0] j := by decide +kernel
theorem df_X3 : ∀ j, j < 4 → defaultValue (tyX3 j) = vp_V [.null, .int 0, .int 0, .int 0] j := by decide +kernel
theorem df_X4 : ∀ j, j < 3 → defaultValue (tyX4 j) = vp_V [.null, .null, .int 0] j := by decide +kernel
theorem df_X5 : ∀ j, j < 10 → defaultValue (tyX5 j) = vp_V [.null, .null, .int 0, .int 0, .int 0, .int 0, .int 0, .int 0, .int 0, .int 0] j := by decide +kernel
theorem df_X2 : ∀ j, j < 6 → defaultValue (tyX2 j) = vp_V [.null, .null, .null, .int 0, .int 0, .int 0] j := by decide +kernel
theorem df_X0 : ∀ j, j < 3 → defaultValue (tyX0 j) = vp_V [.null, .null, .long 0] j := by decide +kernel
theorem df_X6 : ∀ j, j < 11 → defaultValue (tyX6 j) = vp_V [.null, .null, .null, .null, .null, .null, .null, .null, .null, .null, .int 0] j := by decide +kernel
theorem df_X7 : ∀ j, j < 29 → defaultValue (tyX7 j) = vp_V [.null, .null, .int 0, .null, .int 0, .int 0, .int 0, .null, .int 0, .int 0, .int 0, .int 0, .int 0, .int 0, .int 0, .int 0, .null, .null, .int 0, .int 0, .int 0, .null, .int 0, .null, .null, .null, .null, .null, .int 0] j := by decide +kernel
def wn_X1 (a : tq_La) (h : Nat) (u : Nat → Nat) : va_W := ((h, .inr (1, [.ref (u 0), .ref (u 1), .ref (u 2), .ref (u 3), .ref (u 4), .int 0, .int 0, .int 0, .int 2, .int 4, .int 0, .int 0, .int 0, .int (-4)])) :: (((u 0), .inl (a.2.2 0, 5, .inl (fun _ => 0))) :: (((u 1), .inl (a.2.2 0, 5, .inl (fun _ => 0))) :: (((u 2), .inl (a.2.2 0, 5, .inl (fun _ => 0))) :: (((u 3), .inl (a.2.2 0, 8, .inl (fun _ => 0))) :: (((u 4), .inl (a.2.2 0, 5, .inl (fun _ => 0))) :: []))))))
set_option maxRecDepth 100000 in
set_option maxHeartbeats 8000000 in
theorem ok_X1_init : tq_MI yX1_init cX1_init 1 1 5 28 1 [.null, .null, .null, .null, .null, .int 0, .int 0, .int 0, .int 0, .int 0, .int 0, .int 0, .int 0, .int 0] wn_X1 := by
  refine tq_mkC (by decide) rfl (by decide) ?_
  intro X h C hQ hR
  refine gn_aload_n (pc := 0) C dX1_init_0 0 rfl rfl ?_
  refine gn_objInit (pc := 1) C (by decide) (tq_mem (tb_1 (List.mem_of_getElem? (i := 30) rfl)) rfl) (tq_mem (tb_1 (List.mem_of_getElem? (i := 23) rfl)) rfl) (tq_mem (tb_1 (List.mem_of_getElem? (i := 24) rfl)) rfl) dX1_init_1 ?_
  refine gn_aload_n (pc := 4) C dX1_init_4 0 rfl rfl ?_
  refine gn_iconst (pc := 5) (v := 5) C dX1_init_5 (by decide) ?_
  refine gn_newa (pc := 6) C dX1_init_6 rfl (tq_mem (tb_1 (List.mem_of_getElem? (i := 96) rfl)) rfl) 0 rfl 5 (5, .inl (fun _ => 0)) (fun cA => rfl) (by decide) (by decide) (by decide) (by rw [hQ]; decide) (by rw [hQ]; decide) (fun q1 => ?_)
  refine gn_putF (pc := 8) C dX1_init_8 rfl itX1 tyX1 tyX1_ok nmX1 0 (by decide) (tq_mem (tb_1 (List.mem_of_getElem? (i := 31) rfl)) rfl) rfl rfl (ty := tyX1 0) (by decide +kernel) rfl rfl (Nat.le_of_ble_eq_true rfl) [.ref q1, .null, .null, .null, .null, .int 0, .int 0, .int 0, .int 0, .int 0, .int 0, .int 0, .int 0, .int 0] rfl ?_
  refine gn_aload_n (pc := 11) C dX1_init_11 0 rfl rfl ?_
  refine gn_iconst (pc := 12) (v := 5) C dX1_init_12 (by decide) ?_
  refine gn_newa (pc := 13) C dX1_init_13 rfl (tq_mem (tb_1 (List.mem_of_getElem? (i := 96) rfl)) rfl) 0 rfl 5 (5, .inl (fun _ => 0)) (fun cA => rfl) (by decide) (by decide) (by decide) (by rw [hQ]; decide) (by rw [hQ]; decide) (fun q2 => ?_)
  refine gn_putF (pc := 15) C dX1_init_15 rfl itX1 tyX1 tyX1_ok nmX1 1 (by decide) (tq_mem (tb_1 (List.mem_of_getElem? (i := 33) rfl)) rfl) rfl rfl (ty := tyX1 1) (by decide +kernel) rfl rfl (Nat.le_of_ble_eq_true rfl) [.ref q1, .ref q2, .null, .null, .null, .int 0, .int 0, .int 0, .int 0, .int 0, .int 0, .int 0, .int 0, .int 0] rfl ?_
  refine gn_aload_n (pc := 18) C dX1_init_18 0 rfl rfl ?_
  refine gn_iconst (pc := 19) (v := 5) C dX1_init_19 (by decide) ?_
  refine gn_newa (pc := 20) C dX1_init_20 rfl (tq_mem (tb_1 (List.mem_of_getElem? (i := 96) rfl)) rfl) 0 rfl 5 (5, .inl (fun _ => 0)) (fun cA => rfl) (by decide) (by decide) (by decide) (by rw [hQ]; decide) (by rw [hQ]; decide) (fun q3 => ?_)
  refine gn_putF (pc := 22) C dX1_init_22 rfl itX1 tyX1 tyX1_ok nmX1 2 (by decide) (tq_mem (tb_1 (List.mem_of_getElem? (i := 35) rfl)) rfl) rfl rfl (ty := tyX1 2) (by decide +kernel) rfl rfl (Nat.le_of_ble_eq_true rfl) [.ref q1, .ref q2, .ref q3, .null, .null, .int 0, .int 0, .int 0, .int 0, .int 0, .int 0, .int 0, .int 0, .int 0] rfl ?_
  refine gn_aload_n (pc := 25) C dX1_init_25 0 rfl rfl ?_
  refine gn_bipush (pc := 26) (v := 8) C dX1_init_26 (by decide) ?_
  refine gn_newa (pc := 28) C dX1_init_28 rfl (tq_mem (tb_1 (List.mem_of_getElem? (i := 96) rfl)) rfl) 0 rfl 8 (8, .inl (fun _ => 0)) (fun cA => rfl) (by decide) (by decide) (by decide) (by rw [hQ]; decide) (by rw [hQ]; decide) (fun q4 => ?_)
  refine gn_putF (pc := 30) C dX1_init_30 rfl itX1 tyX1 tyX1_ok nmX1 3 (by decide) (tq_mem (tb_1 (List.mem_of_getElem? (i := 37) rfl)) rfl) rfl rfl (ty := tyX1 3) (by decide +kernel) rfl rfl (Nat.le_of_ble_eq_true rfl) [.ref q1, .ref q2, .ref q3, .ref q4, .null, .int 0, .int 0, .int 0, .int 0, .int 0, .int 0, .int 0, .int 0, .int 0] rfl ?_
  refine gn_aload_n (pc := 33) C dX1_init_33 0 rfl rfl ?_
  refine gn_iconst (pc := 34) (v := 5) C dX1_init_34 (by decide) ?_
  refine gn_newa (pc := 35) C dX1_init_35 rfl (tq_mem (tb_1 (List.mem_of_getElem? (i := 96) rfl)) rfl) 0 rfl 5 (5, .inl (fun _ => 0)) (fun cA => rfl) (by decide) (by decide) (by decide) (by rw [hQ]; decide) (by rw [hQ]; decide) (fun q5 => ?_)
  refine gn_putF (pc := 37) C dX1_init_37 rfl itX1 tyX1 tyX1_ok nmX1 4 (by decide) (tq_mem (tb_1 (List.mem_of_getElem? (i := 40) rfl)) rfl) rfl rfl (ty := tyX1 4) (by decide +kernel) rfl rfl (Nat.le_of_ble_eq_true rfl) [.ref q1, .ref q2, .ref q3, .ref q4, .ref q5, .int 0, .int 0, .int 0, .int 0, .int 0, .int 0, .int 0, .int 0, .int 0] rfl ?_
  refine gn_aload_n (pc := 40) C dX1_init_40 0 rfl rfl ?_
  refine gn_iconst (pc := 41) (v := 2) C dX1_init_41 (by decide) ?_
  refine gn_put (pc := 42) C dX1_init_42 rfl itX1 tyX1 tyX1_ok nmX1 8 (by decide) (tq_mem (tb_1 (List.mem_of_getElem? (i := 50) rfl)) rfl) rfl (ty := tyX1 8) (by decide +kernel) rfl rfl (Nat.le_of_ble_eq_true rfl) [.ref q1, .ref q2, .ref q3, .ref q4, .ref q5, .int 0, .int 0, .int 0, .int 2, .int 0, .int 0, .int 0, .int 0, .int 0] rfl ?_
  refine gn_aload_n (pc := 45) C dX1_init_45 0 rfl rfl ?_
  refine gn_iconst (pc := 46) (v := 4) C dX1_init_46 (by decide) ?_
  refine gn_put (pc := 47) C dX1_init_47 rfl itX1 tyX1 tyX1_ok nmX1 9 (by decide) (tq_mem (tb_1 (List.mem_of_getElem? (i := 53) rfl)) rfl) rfl (ty := tyX1 9) (by decide +kernel) rfl rfl (Nat.le_of_ble_eq_true rfl) [.ref q1, .ref q2, .ref q3, .ref q4, .ref q5, .int 0, .int 0, .int 0, .int 2, .int 4, .int 0, .int 0, .int 0, .int 0] rfl ?_
  refine gn_aload_n (pc := 50) C dX1_init_50 0 rfl rfl ?_
  refine gn_bipush (pc := 51) (v := (-4)) C dX1_init_51 (by decide) ?_
  refine gn_put (pc := 53) C dX1_init_53 rfl itX1 tyX1 tyX1_ok nmX1 13 (by decide) (tq_mem (tb_1 (List.mem_of_getElem? (i := 65) rfl)) rfl) rfl (ty := tyX1 13) (by decide +kernel) rfl rfl (Nat.le_of_ble_eq_true rfl) [.ref q1, .ref q2, .ref q3, .ref q4, .ref q5, .int 0, .int 0, .int 0, .int 2, .int 4, .int 0, .int 0, .int 0, .int (-4)] rfl ?_
  exact hR (fun i => if i = 0 then q1 else if i = 1 then q2 else if i = 2 then q3 else if i = 3 then q4 else if i = 4 then q5 else 0) _ _ dX1_init_56
def wn_X3 (a : tq_La) (h : Nat) (u : Nat → Nat) : va_W := ((h, .inr (3, [.ref (u 0), .int 0, .int 0, .int 0])) :: (((u 0), .inl (a.2.2 0, 40, .inl (fun _ => 0))) :: []))
set_option maxRecDepth 100000 in
set_option maxHeartbeats 8000000 in
theorem ok_X3_init : tq_MI yX3_init cX3_init 1 1 1 40 3 [.null, .int 0, .int 0, .int 0] wn_X3 := by
  refine tq_mkC (by decide) rfl (by decide) ?_
  intro X h C hQ hR
  refine gn_aload_n (pc := 0) C dX3_init_0 0 rfl rfl ?_
  refine gn_objInit (pc := 1) C (by decide) (tq_mem (tb_1 (List.mem_of_getElem? (i := 215) rfl)) rfl) (tq_mem (tb_1 (List.mem_of_getElem? (i := 23) rfl)) rfl) (tq_mem (tb_1 (List.mem_of_getElem? (i := 24) rfl)) rfl) dX3_init_1 ?_
  refine gn_aload_n (pc := 4) C dX3_init_4 0 rfl rfl ?_
  refine gn_bipush (pc := 5) (v := 40) C dX3_init_5 (by decide) ?_
  refine gn_newa (pc := 7) C dX3_init_7 rfl (tq_mem (tb_1 (List.mem_of_getElem? (i := 96) rfl)) rfl) 0 rfl 40 (40, .inl (fun _ => 0)) (fun cA => rfl) (by decide) (by decide) (by decide) (by rw [hQ]; decide) (by rw [hQ]; decide) (fun q1 => ?_)
  refine gn_putF (pc := 9) C dX3_init_9 rfl itX3 tyX3 tyX3_ok nmX3 0 (by decide) (tq_mem (tb_1 (List.mem_of_getElem? (i := 216) rfl)) rfl) rfl rfl (ty := tyX3 0) (by decide +kernel) rfl rfl (Nat.le_of_ble_eq_true rfl) [.ref q1, .int 0, .int 0, .int 0] rfl ?_
  exact hR (fun i => if i = 0 then q1 else 0) _ _ dX3_init_12
def wn_X4 (a : tq_La) (h : Nat) (u : Nat → Nat) : va_W := ((h, .inr (4, [.ref (u 0), .ref (u 1), .int 0])) :: (((u 0), .inl (a.2.2 0, 6, .inl (fun _ => 0))) :: (((u 1), .inl (a.2.2 2, 6, .inl (fun _ => 0))) :: [])))
set_option maxRecDepth 100000 in
set_option maxHeartbeats 8000000 in
theorem ok_X4_init : tq_MI yX4_init cX4_init 1 1 2 12 4 [.null, .null, .int 0] wn_X4 := by
  refine tq_mkC (by decide) rfl (by decide) ?_
  intro X h C hQ hR
  refine gn_aload_n (pc := 0) C dX4_init_0 0 rfl rfl ?_
  refine gn_objInit (pc := 1) C (by decide) (tq_mem (tb_1 (List.mem_of_getElem? (i := 145) rfl)) rfl) (tq_mem (tb_1 (List.mem_of_getElem? (i := 23) rfl)) rfl) (tq_mem (tb_1 (List.mem_of_getElem? (i := 24) rfl)) rfl) dX4_init_1 ?_
  refine gn_aload_n (pc := 4) C dX4_init_4 0 rfl rfl ?_
  refine gn_bipush (pc := 5) (v := 6) C dX4_init_5 (by decide) ?_
  refine gn_newa (pc := 7) C dX4_init_7 rfl (tq_mem (tb_1 (List.mem_of_getElem? (i := 96) rfl)) rfl) 0 rfl 6 (6, .inl (fun _ => 0)) (fun cA => rfl) (by decide) (by decide) (by decide) (by rw [hQ]; decide) (by rw [hQ]; decide) (fun q1 => ?_)
  refine gn_putF (pc := 9) C dX4_init_9 rfl itX4 tyX4 tyX4_ok nmX4 0 (by decide) (tq_mem (tb_1 (List.mem_of_getElem? (i := 146) rfl)) rfl) rfl rfl (ty := tyX4 0) (by decide +kernel) rfl rfl (Nat.le_of_ble_eq_true rfl) [.ref q1, .null, .int 0] rfl ?_
  refine gn_aload_n (pc := 12) C dX4_init_12 0 rfl rfl ?_
  refine gn_bipush (pc := 13) (v := 6) C dX4_init_13 (by decide) ?_
  refine gn_newa (pc := 15) C dX4_init_15 rfl (tq_mem (tb_1 (List.mem_of_getElem? (i := 157) rfl)) rfl) 2 rfl 6 (6, .inl (fun _ => 0)) (fun cA => rfl) (by decide) (by decide) (by decide) (by rw [hQ]; decide) (by rw [hQ]; decide) (fun q2 => ?_)
  refine gn_putF (pc := 17) C dX4_init_17 rfl itX4 tyX4 tyX4_ok nmX4 1 (by decide) (tq_mem (tb_1 (List.mem_of_getElem? (i := 147) rfl)) rfl) rfl rfl (ty := tyX4 1) (by decide +kernel) rfl rfl (Nat.le_of_ble_eq_true rfl) [.ref q1, .ref q2, .int 0] rfl ?_
  exact hR (fun i => if i = 0 then q1 else if i = 1 then q2 else 0) _ _ dX4_init_20
def wn_X5 (a : tq_La) (h : Nat) (u : Nat → Nat) : va_W := ((h, .inr (5, [.ref (u 0), .ref (u 1), .int 0, .int 0, .int 0, .int 0, .int 0, .int 0, .int 0, .int 0])) :: (((u 0), .inl (a.2.2 1, 160, .inl (fun _ => 0))) :: (wn_X1 a (u 1) (fun i => u (2 + i)) ++ [])))
set_option maxRecDepth 100000 in
set_option maxHeartbeats 8000000 in
theorem ok_X5_init : tq_MI yX5_init cX5_init 1 2 7 202 5 [.null, .null, .int 0, .int 0, .int 0, .int 0, .int 0, .int 0, .int 0, .int 0] wn_X5 := by
  refine tq_mkC (by decide) rfl (by decide) ?_
  intro X h C hQ hR
  refine gn_aload_n (pc := 0) C dX5_init_0 0 rfl rfl ?_
  refine gn_objInit (pc := 1) C (by decide) (tq_mem (tb_1 (List.mem_of_getElem? (i := 102) rfl)) rfl) (tq_mem (tb_1 (List.mem_of_getElem? (i := 23) rfl)) rfl) (tq_mem (tb_1 (List.mem_of_getElem? (i := 24) rfl)) rfl) dX5_init_1 ?_
  refine gn_aload_n (pc := 4) C dX5_init_4 0 rfl rfl ?_
  refine gn_sipush (pc := 5) (v := 160) C dX5_init_5 (by decide) ?_
  refine gn_newa (pc := 8) C dX5_init_8 rfl (tq_mem (tb_1 (List.mem_of_getElem? (i := 139) rfl)) rfl) 1 rfl 160 (160, .inl (fun _ => 0)) (fun cA => rfl) (by decide) (by decide) (by decide) (by rw [hQ]; decide) (by rw [hQ]; decide) (fun q1 => ?_)
  refine gn_putF (pc := 10) C dX5_init_10 rfl itX5 tyX5 tyX5_ok nmX5 0 (by decide) (tq_mem (tb_1 (List.mem_of_getElem? (i := 105) rfl)) rfl) rfl rfl (ty := tyX5 0) (by decide +kernel) rfl rfl (Nat.le_of_ble_eq_true rfl) [.ref q1, .null, .int 0, .int 0, .int 0, .int 0, .int 0, .int 0, .int 0, .int 0] rfl ?_
  refine gn_aload_n (pc := 13) C dX5_init_13 0 rfl rfl ?_
  refine gn_new (pc := 14) (ci := 1) C dX5_init_14 (tq_mem (tb_1 (List.mem_of_getElem? (i := 103) rfl)) rfl) (tq_mem (tb_1 (List.mem_of_getElem? (i := 26) rfl)) rfl) (tq_mem (tb_1 (List.mem_of_getElem? (i := 2) rfl)) rfl) itX1 tyX1 tyX1_ok rfl [.null, .null, .null, .null, .null, .int 0, .int 0, .int 0, .int 0, .int 0, .int 0, .int 0, .int 0, .int 0] df_X1 (by rw [hQ]; decide) (by rw [hQ]; decide) (fun q2 => ?_)
  refine gn_dup (pc := 17) C dX5_init_17 rfl ?_
  refine gn_initN (pc := 18) C (ok_X1_init) (tq_Nn C ("TearsQueue$Tape", 17, "TearsQueue$Evening") (List.mem_of_getElem? (i := 6) rfl)) (tq_mem (tb_1 (List.mem_of_getElem? (i := 2) rfl)) rfl) (tq_mem (tb_1 (List.mem_of_getElem? (i := 28) rfl)) rfl) (tq_mem (tb_1 (List.mem_of_getElem? (i := 29) rfl)) rfl) (by decide +kernel) rfl (by decide) rfl (by rw [hQ]; decide) (by rw [hQ]; decide) dX5_init_18 (fun u3 => ?_)
  refine gn_putF (pc := 21) C dX5_init_21 rfl itX5 tyX5 tyX5_ok nmX5 1 (by decide) (tq_mem (tb_1 (List.mem_of_getElem? (i := 106) rfl)) rfl) rfl rfl (ty := tyX5 1) (by decide +kernel) rfl rfl (Nat.le_of_ble_eq_true rfl) [.ref q1, .ref q2, .int 0, .int 0, .int 0, .int 0, .int 0, .int 0, .int 0, .int 0] rfl ?_
  exact hR (fun i => if i = 0 then q1 else if i = 1 then q2 else if i < 7 then u3 (i - 2) else 0) _ _ dX5_init_24
end
section
def wn_X2 (a : tq_La) (h : Nat) (u : Nat → Nat) : va_W := ((h, .inr (2, [.ref (u 0), .ref (u 1), .ref (u 2), .int 0, .int 0, .int 0])) :: (((u 0), .inl (a.2.2 4, 5, .inr (.inr (.inr (.inr (va_up (va_up (va_up (va_up (va_up (fun _ => none) 0 (some (u 3))) 1 (some (u 9))) 2 (some (u 15))) 3 (some (u 21))) 4 (some (u 27)))))))) :: (((u 1), .inl (a.2.2 0, 4, .inl (fun _ => 0))) :: (((u 2), .inl (a.2.2 0, 4, .inl (fun _ => 0))) :: (wn_X1 a (u 3) (fun i => u (4 + i)) ++ (wn_X1 a (u 9) (fun i => u (10 + i)) ++ (wn_X1 a (u 15) (fun i => u (16 + i)) ++ (wn_X1 a (u 21) (fun i => u (22 + i)) ++ (wn_X1 a (u 27) (fun i => u (28 + i)) ++ [])))))))))
set_option maxRecDepth 100000 in
set_option maxHeartbeats 8000000 in
theorem ok_X2_init : tq_MI yX2_init cX2_init 2 2 33 223 2 [.null, .null, .null, .int 0, .int 0, .int 0] wn_X2 := by
  refine tq_mkC (by decide) rfl (by decide) ?_
  intro X h C hQ hR
  refine gn_aload_n (pc := 0) C dX2_init_0 0 rfl rfl ?_
  refine gn_objInit (pc := 1) C (by decide) (tq_mem (tb_1 (List.mem_of_getElem? (i := 163) rfl)) rfl) (tq_mem (tb_1 (List.mem_of_getElem? (i := 23) rfl)) rfl) (tq_mem (tb_1 (List.mem_of_getElem? (i := 24) rfl)) rfl) dX2_init_1 ?_
  refine gn_aload_n (pc := 4) C dX2_init_4 0 rfl rfl ?_
  refine gn_iconst (pc := 5) (v := 5) C dX2_init_5 (by decide) ?_
  refine gn_anew (pc := 6) C dX2_init_6 (tq_mem (tb_1 (List.mem_of_getElem? (i := 164) rfl)) rfl) (tq_AOX1 C) 4 rfl 5 (by decide) (by decide) (by decide) (by rw [hQ]; decide) (by rw [hQ]; decide) (fun q1 => ?_)
  refine gn_putF (pc := 9) C dX2_init_9 rfl itX2 tyX2 tyX2_ok nmX2 0 (by decide) (tq_mem (tb_1 (List.mem_of_getElem? (i := 167) rfl)) rfl) rfl rfl (ty := tyX2 0) (by decide +kernel) rfl rfl (Nat.le_of_ble_eq_true rfl) [.ref q1, .null, .null, .int 0, .int 0, .int 0] rfl ?_
  refine gn_aload_n (pc := 12) C dX2_init_12 0 rfl rfl ?_
  refine gn_iconst (pc := 13) (v := 4) C dX2_init_13 (by decide) ?_
  refine gn_newa (pc := 14) C dX2_init_14 rfl (tq_mem (tb_1 (List.mem_of_getElem? (i := 96) rfl)) rfl) 0 rfl 4 (4, .inl (fun _ => 0)) (fun cA => rfl) (by decide) (by decide) (by decide) (by rw [hQ]; decide) (by rw [hQ]; decide) (fun q2 => ?_)
  refine gn_putF (pc := 16) C dX2_init_16 rfl itX2 tyX2 tyX2_ok nmX2 1 (by decide) (tq_mem (tb_1 (List.mem_of_getElem? (i := 168) rfl)) rfl) rfl rfl (ty := tyX2 1) (by decide +kernel) rfl rfl (Nat.le_of_ble_eq_true rfl) [.ref q1, .ref q2, .null, .int 0, .int 0, .int 0] rfl ?_
  refine gn_aload_n (pc := 19) C dX2_init_19 0 rfl rfl ?_
  refine gn_iconst (pc := 20) (v := 4) C dX2_init_20 (by decide) ?_
  refine gn_newa (pc := 21) C dX2_init_21 rfl (tq_mem (tb_1 (List.mem_of_getElem? (i := 96) rfl)) rfl) 0 rfl 4 (4, .inl (fun _ => 0)) (fun cA => rfl) (by decide) (by decide) (by decide) (by rw [hQ]; decide) (by rw [hQ]; decide) (fun q3 => ?_)
  refine gn_putF (pc := 23) C dX2_init_23 rfl itX2 tyX2 tyX2_ok nmX2 2 (by decide) (tq_mem (tb_1 (List.mem_of_getElem? (i := 169) rfl)) rfl) rfl rfl (ty := tyX2 2) (by decide +kernel) rfl rfl (Nat.le_of_ble_eq_true rfl) [.ref q1, .ref q2, .ref q3, .int 0, .int 0, .int 0] rfl ?_
  refine gn_iconst (pc := 26) (v := 0) C dX2_init_26 (by decide) ?_
  refine gn_istore_n (pc := 27) C dX2_init_27 [(1, .int 0), (0, .ref h)] rfl (by decide) rfl ?_
  refine gn_iload_n (pc := 28) C dX2_init_28 0 rfl rfl ?_
  refine gn_iconst (pc := 29) (v := 4) C dX2_init_29 (by decide) ?_
  refine gn_ic_gt (pc := 30) C dX2_init_30 52 (by decide) (fun c9 => absurd c9 (by decide)) (fun c9 => ?_)
  refine gn_aload_n (pc := 33) C dX2_init_33 1 rfl rfl ?_
  refine gn_get (pc := 34) C dX2_init_34 rfl itX2 0 (by decide) (tq_mem (tb_1 (List.mem_of_getElem? (i := 167) rfl)) rfl) rfl ?_
  refine gn_iload_n (pc := 37) C dX2_init_37 0 rfl rfl ?_
  refine gn_new (pc := 38) (ci := 1) C dX2_init_38 (tq_mem (tb_1 (List.mem_of_getElem? (i := 164) rfl)) rfl) (tq_mem (tb_1 (List.mem_of_getElem? (i := 26) rfl)) rfl) (tq_mem (tb_1 (List.mem_of_getElem? (i := 2) rfl)) rfl) itX1 tyX1 tyX1_ok rfl [.null, .null, .null, .null, .null, .int 0, .int 0, .int 0, .int 0, .int 0, .int 0, .int 0, .int 0, .int 0] df_X1 (by rw [hQ]; decide) (by rw [hQ]; decide) (fun q4 => ?_)
  refine gn_dup (pc := 41) C dX2_init_41 rfl ?_
  refine gn_initN (pc := 42) C (ok_X1_init) (tq_Nn C ("TearsQueue$Rows", 24, "TearsQueue$Evening") (List.mem_of_getElem? (i := 5) rfl)) (tq_mem (tb_1 (List.mem_of_getElem? (i := 2) rfl)) rfl) (tq_mem (tb_1 (List.mem_of_getElem? (i := 28) rfl)) rfl) (tq_mem (tb_1 (List.mem_of_getElem? (i := 29) rfl)) rfl) (by decide +kernel) rfl (by decide) rfl (by rw [hQ]; decide) (by rw [hQ]; decide) dX2_init_42 (fun u5 => ?_)
  refine gn_aast (pc := 45) C dX2_init_45 1 4 rfl rfl rfl rfl (vp_in_nI (n := 0) (by decide) (by decide)) ((h, .inr (2, [.ref q1, .ref q2, .ref q3, .int 0, .int 0, .int 0])) :: ((q1, .inl ((tq_la X).2.2 4, 5, .inr (.inr (.inr (.inr (va_up (fun _ => none) 0 (some q4))))))) :: ((q2, .inl ((tq_la X).2.2 0, 4, .inl (fun _ => 0))) :: ((q3, .inl ((tq_la X).2.2 0, 4, .inl (fun _ => 0))) :: ((wn_X1 (tq_la X) q4 u5 ++ [])))))) rfl ?_
  refine gn_iinc (pc := 46) (j := 0) (v := 1) C dX2_init_46 [(1, .int 1), (0, .ref h)] rfl (by decide) (by decide) rfl ?_
  refine gn_goto (pc := 49) C dX2_init_49 28 (by decide) ?_
  refine gn_iload_n (pc := 28) C dX2_init_28 0 rfl rfl ?_
  refine gn_iconst (pc := 29) (v := 4) C dX2_init_29 (by decide) ?_
  refine gn_ic_gt (pc := 30) C dX2_init_30 52 (by decide) (fun c9 => absurd c9 (by decide)) (fun c9 => ?_)
  refine gn_aload_n (pc := 33) C dX2_init_33 1 rfl rfl ?_
  refine gn_get (pc := 34) C dX2_init_34 rfl itX2 0 (by decide) (tq_mem (tb_1 (List.mem_of_getElem? (i := 167) rfl)) rfl) rfl ?_
  refine gn_iload_n (pc := 37) C dX2_init_37 0 rfl rfl ?_
  refine gn_new (pc := 38) (ci := 1) C dX2_init_38 (tq_mem (tb_1 (List.mem_of_getElem? (i := 164) rfl)) rfl) (tq_mem (tb_1 (List.mem_of_getElem? (i := 26) rfl)) rfl) (tq_mem (tb_1 (List.mem_of_getElem? (i := 2) rfl)) rfl) itX1 tyX1 tyX1_ok rfl [.null, .null, .null, .null, .null, .int 0, .int 0, .int 0, .int 0, .int 0, .int 0, .int 0, .int 0, .int 0] df_X1 (by rw [hQ]; decide) (by rw [hQ]; decide) (fun q6 => ?_)
  refine gn_dup (pc := 41) C dX2_init_41 rfl ?_
  refine gn_initN (pc := 42) C (ok_X1_init) (tq_Nn C ("TearsQueue$Rows", 24, "TearsQueue$Evening") (List.mem_of_getElem? (i := 5) rfl)) (tq_mem (tb_1 (List.mem_of_getElem? (i := 2) rfl)) rfl) (tq_mem (tb_1 (List.mem_of_getElem? (i := 28) rfl)) rfl) (tq_mem (tb_1 (List.mem_of_getElem? (i := 29) rfl)) rfl) (by decide +kernel) rfl (by decide) rfl (by rw [hQ]; decide) (by rw [hQ]; decide) dX2_init_42 (fun u7 => ?_)
  refine gn_aast (pc := 45) C dX2_init_45 1 10 rfl rfl rfl rfl (vp_in_nI (n := 1) (by decide) (by decide)) ((h, .inr (2, [.ref q1, .ref q2, .ref q3, .int 0, .int 0, .int 0])) :: ((q1, .inl ((tq_la X).2.2 4, 5, .inr (.inr (.inr (.inr (va_up (va_up (fun _ => none) 0 (some q4)) 1 (some q6))))))) :: ((q2, .inl ((tq_la X).2.2 0, 4, .inl (fun _ => 0))) :: ((q3, .inl ((tq_la X).2.2 0, 4, .inl (fun _ => 0))) :: ((wn_X1 (tq_la X) q4 u5 ++ ((wn_X1 (tq_la X) q6 u7 ++ [])))))))) rfl ?_
  refine gn_iinc (pc := 46) (j := 0) (v := 2) C dX2_init_46 [(1, .int 2), (0, .ref h)] rfl (by decide) (by decide) rfl ?_
  refine gn_goto (pc := 49) C dX2_init_49 28 (by decide) ?_
  refine gn_iload_n (pc := 28) C dX2_init_28 0 rfl rfl ?_
  refine gn_iconst (pc := 29) (v := 4) C dX2_init_29 (by decide) ?_
  refine gn_ic_gt (pc := 30) C dX2_init_30 52 (by decide) (fun c9 => absurd c9 (by decide)) (fun c9 => ?_)
  refine gn_aload_n (pc := 33) C dX2_init_33 1 rfl rfl ?_
  refine gn_get (pc := 34) C dX2_init_34 rfl itX2 0 (by decide) (tq_mem (tb_1 (List.mem_of_getElem? (i := 167) rfl)) rfl) rfl ?_
  refine gn_iload_n (pc := 37) C dX2_init_37 0 rfl rfl ?_
  refine gn_new (pc := 38) (ci := 1) C dX2_init_38 (tq_mem (tb_1 (List.mem_of_getElem? (i := 164) rfl)) rfl) (tq_mem (tb_1 (List.mem_of_getElem? (i := 26) rfl)) rfl) (tq_mem (tb_1 (List.mem_of_getElem? (i := 2) rfl)) rfl) itX1 tyX1 tyX1_ok rfl [.null, .null, .null, .null, .null, .int 0, .int 0, .int 0, .int 0, .int 0, .int 0, .int 0, .int 0, .int 0] df_X1 (by rw [hQ]; decide) (by rw [hQ]; decide) (fun q8 => ?_)
  refine gn_dup (pc := 41) C dX2_init_41 rfl ?_
  refine gn_initN (pc := 42) C (ok_X1_init) (tq_Nn C ("TearsQueue$Rows", 24, "TearsQueue$Evening") (List.mem_of_getElem? (i := 5) rfl)) (tq_mem (tb_1 (List.mem_of_getElem? (i := 2) rfl)) rfl) (tq_mem (tb_1 (List.mem_of_getElem? (i := 28) rfl)) rfl) (tq_mem (tb_1 (List.mem_of_getElem? (i := 29) rfl)) rfl) (by decide +kernel) rfl (by decide) rfl (by rw [hQ]; decide) (by rw [hQ]; decide) dX2_init_42 (fun u9 => ?_)
  refine gn_aast (pc := 45) C dX2_init_45 1 16 rfl rfl rfl rfl (vp_in_nI (n := 2) (by decide) (by decide)) ((h, .inr (2, [.ref q1, .ref q2, .ref q3, .int 0, .int 0, .int 0])) :: ((q1, .inl ((tq_la X).2.2 4, 5, .inr (.inr (.inr (.inr (va_up (va_up (va_up (fun _ => none) 0 (some q4)) 1 (some q6)) 2 (some q8))))))) :: ((q2, .inl ((tq_la X).2.2 0, 4, .inl (fun _ => 0))) :: ((q3, .inl ((tq_la X).2.2 0, 4, .inl (fun _ => 0))) :: ((wn_X1 (tq_la X) q4 u5 ++ ((wn_X1 (tq_la X) q6 u7 ++ ((wn_X1 (tq_la X) q8 u9 ++ [])))))))))) rfl ?_
  refine gn_iinc (pc := 46) (j := 0) (v := 3) C dX2_init_46 [(1, .int 3), (0, .ref h)] rfl (by decide) (by decide) rfl ?_
  refine gn_goto (pc := 49) C dX2_init_49 28 (by decide) ?_
  refine gn_iload_n (pc := 28) C dX2_init_28 0 rfl rfl ?_
  refine gn_iconst (pc := 29) (v := 4) C dX2_init_29 (by decide) ?_
  refine gn_ic_gt (pc := 30) C dX2_init_30 52 (by decide) (fun c9 => absurd c9 (by decide)) (fun c9 => ?_)
  refine gn_aload_n (pc := 33) C dX2_init_33 1 rfl rfl ?_
  refine gn_get (pc := 34) C dX2_init_34 rfl itX2 0 (by decide) (tq_mem (tb_1 (List.mem_of_getElem? (i := 167) rfl)) rfl) rfl ?_
  refine gn_iload_n (pc := 37) C dX2_init_37 0 rfl rfl ?_
  refine gn_new (pc := 38) (ci := 1) C dX2_init_38 (tq_mem (tb_1 (List.mem_of_getElem? (i := 164) rfl)) rfl) (tq_mem (tb_1 (List.mem_of_getElem? (i := 26) rfl)) rfl) (tq_mem (tb_1 (List.mem_of_getElem? (i := 2) rfl)) rfl) itX1 tyX1 tyX1_ok rfl [.null, .null, .null, .null, .null, .int 0, .int 0, .int 0, .int 0, .int 0, .int 0, .int 0, .int 0, .int 0] df_X1 (by rw [hQ]; decide) (by rw [hQ]; decide) (fun q10 => ?_)
  refine gn_dup (pc := 41) C dX2_init_41 rfl ?_
  refine gn_initN (pc := 42) C (ok_X1_init) (tq_Nn C ("TearsQueue$Rows", 24, "TearsQueue$Evening") (List.mem_of_getElem? (i := 5) rfl)) (tq_mem (tb_1 (List.mem_of_getElem? (i := 2) rfl)) rfl) (tq_mem (tb_1 (List.mem_of_getElem? (i := 28) rfl)) rfl) (tq_mem (tb_1 (List.mem_of_getElem? (i := 29) rfl)) rfl) (by decide +kernel) rfl (by decide) rfl (by rw [hQ]; decide) (by rw [hQ]; decide) dX2_init_42 (fun u11 => ?_)
  refine gn_aast (pc := 45) C dX2_init_45 1 22 rfl rfl rfl rfl (vp_in_nI (n := 3) (by decide) (by decide)) ((h, .inr (2, [.ref q1, .ref q2, .ref q3, .int 0, .int 0, .int 0])) :: ((q1, .inl ((tq_la X).2.2 4, 5, .inr (.inr (.inr (.inr (va_up (va_up (va_up (va_up (fun _ => none) 0 (some q4)) 1 (some q6)) 2 (some q8)) 3 (some q10))))))) :: ((q2, .inl ((tq_la X).2.2 0, 4, .inl (fun _ => 0))) :: ((q3, .inl ((tq_la X).2.2 0, 4, .inl (fun _ => 0))) :: ((wn_X1 (tq_la X) q4 u5 ++ ((wn_X1 (tq_la X) q6 u7 ++ ((wn_X1 (tq_la X) q8 u9 ++ ((wn_X1 (tq_la X) q10 u11 ++ [])))))))))))) rfl ?_
  refine gn_iinc (pc := 46) (j := 0) (v := 4) C dX2_init_46 [(1, .int 4), (0, .ref h)] rfl (by decide) (by decide) rfl ?_
  refine gn_goto (pc := 49) C dX2_init_49 28 (by decide) ?_
  refine gn_iload_n (pc := 28) C dX2_init_28 0 rfl rfl ?_
  refine gn_iconst (pc := 29) (v := 4) C dX2_init_29 (by decide) ?_
  refine gn_ic_gt (pc := 30) C dX2_init_30 52 (by decide) (fun c9 => absurd c9 (by decide)) (fun c9 => ?_)
  refine gn_aload_n (pc := 33) C dX2_init_33 1 rfl rfl ?_
  refine gn_get (pc := 34) C dX2_init_34 rfl itX2 0 (by decide) (tq_mem (tb_1 (List.mem_of_getElem? (i := 167) rfl)) rfl) rfl ?_
  refine gn_iload_n (pc := 37) C dX2_init_37 0 rfl rfl ?_
  refine gn_new (pc := 38) (ci := 1) C dX2_init_38 (tq_mem (tb_1 (List.mem_of_getElem? (i := 164) rfl)) rfl) (tq_mem (tb_1 (List.mem_of_getElem? (i := 26) rfl)) rfl) (tq_mem (tb_1 (List.mem_of_getElem? (i := 2) rfl)) rfl) itX1 tyX1 tyX1_ok rfl [.null, .null, .null, .null, .null, .int 0, .int 0, .int 0, .int 0, .int 0, .int 0, .int 0, .int 0, .int 0] df_X1 (by rw [hQ]; decide) (by rw [hQ]; decide) (fun q12 => ?_)
  refine gn_dup (pc := 41) C dX2_init_41 rfl ?_
  refine gn_initN (pc := 42) C (ok_X1_init) (tq_Nn C ("TearsQueue$Rows", 24, "TearsQueue$Evening") (List.mem_of_getElem? (i := 5) rfl)) (tq_mem (tb_1 (List.mem_of_getElem? (i := 2) rfl)) rfl) (tq_mem (tb_1 (List.mem_of_getElem? (i := 28) rfl)) rfl) (tq_mem (tb_1 (List.mem_of_getElem? (i := 29) rfl)) rfl) (by decide +kernel) rfl (by decide) rfl (by rw [hQ]; decide) (by rw [hQ]; decide) dX2_init_42 (fun u13 => ?_)
  refine gn_aast (pc := 45) C dX2_init_45 1 28 rfl rfl rfl rfl (vp_in_nI (n := 4) (by decide) (by decide)) ((h, .inr (2, [.ref q1, .ref q2, .ref q3, .int 0, .int 0, .int 0])) :: ((q1, .inl ((tq_la X).2.2 4, 5, .inr (.inr (.inr (.inr (va_up (va_up (va_up (va_up (va_up (fun _ => none) 0 (some q4)) 1 (some q6)) 2 (some q8)) 3 (some q10)) 4 (some q12))))))) :: ((q2, .inl ((tq_la X).2.2 0, 4, .inl (fun _ => 0))) :: ((q3, .inl ((tq_la X).2.2 0, 4, .inl (fun _ => 0))) :: ((wn_X1 (tq_la X) q4 u5 ++ ((wn_X1 (tq_la X) q6 u7 ++ ((wn_X1 (tq_la X) q8 u9 ++ ((wn_X1 (tq_la X) q10 u11 ++ ((wn_X1 (tq_la X) q12 u13 ++ [])))))))))))))) rfl ?_
  refine gn_iinc (pc := 46) (j := 0) (v := 5) C dX2_init_46 [(1, .int 5), (0, .ref h)] rfl (by decide) (by decide) rfl ?_
  refine gn_goto (pc := 49) C dX2_init_49 28 (by decide) ?_
  refine gn_iload_n (pc := 28) C dX2_init_28 0 rfl rfl ?_
  refine gn_iconst (pc := 29) (v := 4) C dX2_init_29 (by decide) ?_
  refine gn_ic_gt (pc := 30) C dX2_init_30 52 (by decide) (fun c9 => ?_) (fun c9 => absurd (by decide) c9)
  exact hR (fun i => if i = 0 then q1 else if i = 1 then q2 else if i = 2 then q3 else if i = 3 then q4 else if i < 9 then u5 (i - 4) else if i = 9 then q6 else if i < 15 then u7 (i - 10) else if i = 15 then q8 else if i < 21 then u9 (i - 16) else if i = 21 then q10 else if i < 27 then u11 (i - 22) else if i = 27 then q12 else if i < 33 then u13 (i - 28) else 0) _ _ dX2_init_52
end
section
def wn_X0 (a : tq_La) (h : Nat) (u : Nat → Nat) : va_W := ((h, .inr (0, [.ref (u 0), .ref (u 1), .long 0])) :: (((u 0), .inl (a.2.2 4, 9, .inr (.inr (.inr (.inr (va_up (va_up (va_up (va_up (va_up (va_up (va_up (va_up (va_up (fun _ => none) 0 (some (u 2))) 1 (some (u 8))) 2 (some (u 14))) 3 (some (u 20))) 4 (some (u 26))) 5 (some (u 32))) 6 (some (u 38))) 7 (some (u 44))) 8 (some (u 50)))))))) :: (((u 1), .inl (a.2.2 3, 5, .inr (.inl (fun _ => 0)))) :: (wn_X1 a (u 2) (fun i => u (3 + i)) ++ (wn_X1 a (u 8) (fun i => u (9 + i)) ++ (wn_X1 a (u 14) (fun i => u (15 + i)) ++ (wn_X1 a (u 20) (fun i => u (21 + i)) ++ (wn_X1 a (u 26) (fun i => u (27 + i)) ++ (wn_X1 a (u 32) (fun i => u (33 + i)) ++ (wn_X1 a (u 38) (fun i => u (39 + i)) ++ (wn_X1 a (u 44) (fun i => u (45 + i)) ++ (wn_X1 a (u 50) (fun i => u (51 + i)) ++ []))))))))))))
set_option maxRecDepth 100000 in
set_option maxHeartbeats 8000000 in
theorem ok_X0_init : tq_MI yX0_init cX0_init 2 2 56 392 0 [.null, .null, .long 0] wn_X0 := by
  refine tq_mkC (by decide) rfl (by decide) ?_
  intro X h C hQ hR
  refine gn_aload_n (pc := 0) C dX0_init_0 0 rfl rfl ?_
  refine gn_objInit (pc := 1) C (by decide) (tq_mem (tb_1 (List.mem_of_getElem? (i := 194) rfl)) rfl) (tq_mem (tb_1 (List.mem_of_getElem? (i := 23) rfl)) rfl) (tq_mem (tb_1 (List.mem_of_getElem? (i := 24) rfl)) rfl) dX0_init_1 ?_
  refine gn_aload_n (pc := 4) C dX0_init_4 0 rfl rfl ?_
  refine gn_bipush (pc := 5) (v := 9) C dX0_init_5 (by decide) ?_
  refine gn_anew (pc := 7) C dX0_init_7 (tq_mem (tb_1 (List.mem_of_getElem? (i := 195) rfl)) rfl) (tq_AOX1 C) 4 rfl 9 (by decide) (by decide) (by decide) (by rw [hQ]; decide) (by rw [hQ]; decide) (fun q1 => ?_)
  refine gn_putF (pc := 10) C dX0_init_10 rfl itX0 tyX0 tyX0_ok nmX0 0 (by decide) (tq_mem (tb_1 (List.mem_of_getElem? (i := 197) rfl)) rfl) rfl rfl (ty := tyX0 0) (by decide +kernel) rfl rfl (Nat.le_of_ble_eq_true rfl) [.ref q1, .null, .long 0] rfl ?_
  refine gn_aload_n (pc := 13) C dX0_init_13 0 rfl rfl ?_
  refine gn_iconst (pc := 14) (v := 5) C dX0_init_14 (by decide) ?_
  refine gn_newa (pc := 15) C dX0_init_15 rfl (tq_mem (tb_1 (List.mem_of_getElem? (i := 208) rfl)) rfl) 3 rfl 5 (5, .inr (.inl (fun _ => 0))) (fun cA => rfl) (by decide) (by decide) (by decide) (by rw [hQ]; decide) (by rw [hQ]; decide) (fun q2 => ?_)
  refine gn_putF (pc := 17) C dX0_init_17 rfl itX0 tyX0 tyX0_ok nmX0 1 (by decide) (tq_mem (tb_1 (List.mem_of_getElem? (i := 198) rfl)) rfl) rfl rfl (ty := tyX0 1) (by decide +kernel) rfl rfl (Nat.le_of_ble_eq_true rfl) [.ref q1, .ref q2, .long 0] rfl ?_
  refine gn_iconst (pc := 20) (v := 0) C dX0_init_20 (by decide) ?_
  refine gn_istore_n (pc := 21) C dX0_init_21 [(1, .int 0), (0, .ref h)] rfl (by decide) rfl ?_
  refine gn_iload_n (pc := 22) C dX0_init_22 0 rfl rfl ?_
  refine gn_bipush (pc := 23) (v := 8) C dX0_init_23 (by decide) ?_
  refine gn_ic_gt (pc := 25) C dX0_init_25 47 (by decide) (fun c9 => absurd c9 (by decide)) (fun c9 => ?_)
  refine gn_aload_n (pc := 28) C dX0_init_28 1 rfl rfl ?_
  refine gn_get (pc := 29) C dX0_init_29 rfl itX0 0 (by decide) (tq_mem (tb_1 (List.mem_of_getElem? (i := 197) rfl)) rfl) rfl ?_
  refine gn_iload_n (pc := 32) C dX0_init_32 0 rfl rfl ?_
  refine gn_new (pc := 33) (ci := 1) C dX0_init_33 (tq_mem (tb_1 (List.mem_of_getElem? (i := 195) rfl)) rfl) (tq_mem (tb_1 (List.mem_of_getElem? (i := 26) rfl)) rfl) (tq_mem (tb_1 (List.mem_of_getElem? (i := 2) rfl)) rfl) itX1 tyX1 tyX1_ok rfl [.null, .null, .null, .null, .null, .int 0, .int 0, .int 0, .int 0, .int 0, .int 0, .int 0, .int 0, .int 0] df_X1 (by rw [hQ]; decide) (by rw [hQ]; decide) (fun q3 => ?_)
  refine gn_dup (pc := 36) C dX0_init_36 rfl ?_
  refine gn_initN (pc := 37) C (ok_X1_init) (tq_Nn C ("TearsQueue$Chances", 21, "TearsQueue$Evening") (List.mem_of_getElem? (i := 4) rfl)) (tq_mem (tb_1 (List.mem_of_getElem? (i := 2) rfl)) rfl) (tq_mem (tb_1 (List.mem_of_getElem? (i := 28) rfl)) rfl) (tq_mem (tb_1 (List.mem_of_getElem? (i := 29) rfl)) rfl) (by decide +kernel) rfl (by decide) rfl (by rw [hQ]; decide) (by rw [hQ]; decide) dX0_init_37 (fun u4 => ?_)
  refine gn_aast (pc := 40) C dX0_init_40 1 3 rfl rfl rfl rfl (vp_in_nI (n := 0) (by decide) (by decide)) ((h, .inr (0, [.ref q1, .ref q2, .long 0])) :: ((q1, .inl ((tq_la X).2.2 4, 9, .inr (.inr (.inr (.inr (va_up (fun _ => none) 0 (some q3))))))) :: ((q2, .inl ((tq_la X).2.2 3, 5, .inr (.inl (fun _ => 0)))) :: ((wn_X1 (tq_la X) q3 u4 ++ []))))) rfl ?_
  refine gn_iinc (pc := 41) (j := 0) (v := 1) C dX0_init_41 [(1, .int 1), (0, .ref h)] rfl (by decide) (by decide) rfl ?_
  refine gn_goto (pc := 44) C dX0_init_44 22 (by decide) ?_
  refine gn_iload_n (pc := 22) C dX0_init_22 0 rfl rfl ?_
  refine gn_bipush (pc := 23) (v := 8) C dX0_init_23 (by decide) ?_
  refine gn_ic_gt (pc := 25) C dX0_init_25 47 (by decide) (fun c9 => absurd c9 (by decide)) (fun c9 => ?_)
  refine gn_aload_n (pc := 28) C dX0_init_28 1 rfl rfl ?_
  refine gn_get (pc := 29) C dX0_init_29 rfl itX0 0 (by decide) (tq_mem (tb_1 (List.mem_of_getElem? (i := 197) rfl)) rfl) rfl ?_
  refine gn_iload_n (pc := 32) C dX0_init_32 0 rfl rfl ?_
  refine gn_new (pc := 33) (ci := 1) C dX0_init_33 (tq_mem (tb_1 (List.mem_of_getElem? (i := 195) rfl)) rfl) (tq_mem (tb_1 (List.mem_of_getElem? (i := 26) rfl)) rfl) (tq_mem (tb_1 (List.mem_of_getElem? (i := 2) rfl)) rfl) itX1 tyX1 tyX1_ok rfl [.null, .null, .null, .null, .null, .int 0, .int 0, .int 0, .int 0, .int 0, .int 0, .int 0, .int 0, .int 0] df_X1 (by rw [hQ]; decide) (by rw [hQ]; decide) (fun q5 => ?_)
  refine gn_dup (pc := 36) C dX0_init_36 rfl ?_
  refine gn_initN (pc := 37) C (ok_X1_init) (tq_Nn C ("TearsQueue$Chances", 21, "TearsQueue$Evening") (List.mem_of_getElem? (i := 4) rfl)) (tq_mem (tb_1 (List.mem_of_getElem? (i := 2) rfl)) rfl) (tq_mem (tb_1 (List.mem_of_getElem? (i := 28) rfl)) rfl) (tq_mem (tb_1 (List.mem_of_getElem? (i := 29) rfl)) rfl) (by decide +kernel) rfl (by decide) rfl (by rw [hQ]; decide) (by rw [hQ]; decide) dX0_init_37 (fun u6 => ?_)
  refine gn_aast (pc := 40) C dX0_init_40 1 9 rfl rfl rfl rfl (vp_in_nI (n := 1) (by decide) (by decide)) ((h, .inr (0, [.ref q1, .ref q2, .long 0])) :: ((q1, .inl ((tq_la X).2.2 4, 9, .inr (.inr (.inr (.inr (va_up (va_up (fun _ => none) 0 (some q3)) 1 (some q5))))))) :: ((q2, .inl ((tq_la X).2.2 3, 5, .inr (.inl (fun _ => 0)))) :: ((wn_X1 (tq_la X) q3 u4 ++ ((wn_X1 (tq_la X) q5 u6 ++ []))))))) rfl ?_
  refine gn_iinc (pc := 41) (j := 0) (v := 2) C dX0_init_41 [(1, .int 2), (0, .ref h)] rfl (by decide) (by decide) rfl ?_
  refine gn_goto (pc := 44) C dX0_init_44 22 (by decide) ?_
  refine gn_iload_n (pc := 22) C dX0_init_22 0 rfl rfl ?_
  refine gn_bipush (pc := 23) (v := 8) C dX0_init_23 (by decide) ?_
  refine gn_ic_gt (pc := 25) C dX0_init_25 47 (by decide) (fun c9 => absurd c9 (by decide)) (fun c9 => ?_)
  refine gn_aload_n (pc := 28) C dX0_init_28 1 rfl rfl ?_
  refine gn_get (pc := 29) C dX0_init_29 rfl itX0 0 (by decide) (tq_mem (tb_1 (List.mem_of_getElem? (i := 197) rfl)) rfl) rfl ?_
  refine gn_iload_n (pc := 32) C dX0_init_32 0 rfl rfl ?_
  refine gn_new (pc := 33) (ci := 1) C dX0_init_33 (tq_mem (tb_1 (List.mem_of_getElem? (i := 195) rfl)) rfl) (tq_mem (tb_1 (List.mem_of_getElem? (i := 26) rfl)) rfl) (tq_mem (tb_1 (List.mem_of_getElem? (i := 2) rfl)) rfl) itX1 tyX1 tyX1_ok rfl [.null, .null, .null, .null, .null, .int 0, .int 0, .int 0, .int 0, .int 0, .int 0, .int 0, .int 0, .int 0] df_X1 (by rw [hQ]; decide) (by rw [hQ]; decide) (fun q7 => ?_)
  refine gn_dup (pc := 36) C dX0_init_36 rfl ?_
  refine gn_initN (pc := 37) C (ok_X1_init) (tq_Nn C ("TearsQueue$Chances", 21, "TearsQueue$Evening") (List.mem_of_getElem? (i := 4) rfl)) (tq_mem (tb_1 (List.mem_of_getElem? (i := 2) rfl)) rfl) (tq_mem (tb_1 (List.mem_of_getElem? (i := 28) rfl)) rfl) (tq_mem (tb_1 (List.mem_of_getElem? (i := 29) rfl)) rfl) (by decide +kernel) rfl (by decide) rfl (by rw [hQ]; decide) (by rw [hQ]; decide) dX0_init_37 (fun u8 => ?_)
  refine gn_aast (pc := 40) C dX0_init_40 1 15 rfl rfl rfl rfl (vp_in_nI (n := 2) (by decide) (by decide)) ((h, .inr (0, [.ref q1, .ref q2, .long 0])) :: ((q1, .inl ((tq_la X).2.2 4, 9, .inr (.inr (.inr (.inr (va_up (va_up (va_up (fun _ => none) 0 (some q3)) 1 (some q5)) 2 (some q7))))))) :: ((q2, .inl ((tq_la X).2.2 3, 5, .inr (.inl (fun _ => 0)))) :: ((wn_X1 (tq_la X) q3 u4 ++ ((wn_X1 (tq_la X) q5 u6 ++ ((wn_X1 (tq_la X) q7 u8 ++ []))))))))) rfl ?_
  refine gn_iinc (pc := 41) (j := 0) (v := 3) C dX0_init_41 [(1, .int 3), (0, .ref h)] rfl (by decide) (by decide) rfl ?_
  refine gn_goto (pc := 44) C dX0_init_44 22 (by decide) ?_
  refine gn_iload_n (pc := 22) C dX0_init_22 0 rfl rfl ?_
  refine gn_bipush (pc := 23) (v := 8) C dX0_init_23 (by decide) ?_
  refine gn_ic_gt (pc := 25) C dX0_init_25 47 (by decide) (fun c9 => absurd c9 (by decide)) (fun c9 => ?_)
  refine gn_aload_n (pc := 28) C dX0_init_28 1 rfl rfl ?_
  refine gn_get (pc := 29) C dX0_init_29 rfl itX0 0 (by decide) (tq_mem (tb_1 (List.mem_of_getElem? (i := 197) rfl)) rfl) rfl ?_
  refine gn_iload_n (pc := 32) C dX0_init_32 0 rfl rfl ?_
  refine gn_new (pc := 33) (ci := 1) C dX0_init_33 (tq_mem (tb_1 (List.mem_of_getElem? (i := 195) rfl)) rfl) (tq_mem (tb_1 (List.mem_of_getElem? (i := 26) rfl)) rfl) (tq_mem (tb_1 (List.mem_of_getElem? (i := 2) rfl)) rfl) itX1 tyX1 tyX1_ok rfl [.null, .null, .null, .null, .null, .int 0, .int 0, .int 0, .int 0, .int 0, .int 0, .int 0, .int 0, .int 0] df_X1 (by rw [hQ]; decide) (by rw [hQ]; decide) (fun q9 => ?_)
  refine gn_dup (pc := 36) C dX0_init_36 rfl ?_
  refine gn_initN (pc := 37) C (ok_X1_init) (tq_Nn C ("TearsQueue$Chances", 21, "TearsQueue$Evening") (List.mem_of_getElem? (i := 4) rfl)) (tq_mem (tb_1 (List.mem_of_getElem? (i := 2) rfl)) rfl) (tq_mem (tb_1 (List.mem_of_getElem? (i := 28) rfl)) rfl) (tq_mem (tb_1 (List.mem_of_getElem? (i := 29) rfl)) rfl) (by decide +kernel) rfl (by decide) rfl (by rw [hQ]; decide) (by rw [hQ]; decide) dX0_init_37 (fun u10 => ?_)
  refine gn_aast (pc := 40) C dX0_init_40 1 21 rfl rfl rfl rfl (vp_in_nI (n := 3) (by decide) (by decide)) ((h, .inr (0, [.ref q1, .ref q2, .long 0])) :: ((q1, .inl ((tq_la X).2.2 4, 9, .inr (.inr (.inr (.inr (va_up (va_up (va_up (va_up (fun _ => none) 0 (some q3)) 1 (some q5)) 2 (some q7)) 3 (some q9))))))) :: ((q2, .inl ((tq_la X).2.2 3, 5, .inr (.inl (fun _ => 0)))) :: ((wn_X1 (tq_la X) q3 u4 ++ ((wn_X1 (tq_la X) q5 u6 ++ ((wn_X1 (tq_la X) q7 u8 ++ ((wn_X1 (tq_la X) q9 u10 ++ []))))))))))) rfl ?_
  refine gn_iinc (pc := 41) (j := 0) (v := 4) C dX0_init_41 [(1, .int 4), (0, .ref h)] rfl (by decide) (by decide) rfl ?_
  refine gn_goto (pc := 44) C dX0_init_44 22 (by decide) ?_
  refine gn_iload_n (pc := 22) C dX0_init_22 0 rfl rfl ?_
  refine gn_bipush (pc := 23) (v := 8) C dX0_init_23 (by decide) ?_
  refine gn_ic_gt (pc := 25) C dX0_init_25 47 (by decide) (fun c9 => absurd c9 (by decide)) (fun c9 => ?_)
  refine gn_aload_n (pc := 28) C dX0_init_28 1 rfl rfl ?_
  refine gn_get (pc := 29) C dX0_init_29 rfl itX0 0 (by decide) (tq_mem (tb_1 (List.mem_of_getElem? (i := 197) rfl)) rfl) rfl ?_
  refine gn_iload_n (pc := 32) C dX0_init_32 0 rfl rfl ?_
  refine gn_new (pc := 33) (ci := 1) C dX0_init_33 (tq_mem (tb_1 (List.mem_of_getElem? (i := 195) rfl)) rfl) (tq_mem (tb_1 (List.mem_of_getElem? (i := 26) rfl)) rfl) (tq_mem (tb_1 (List.mem_of_getElem? (i := 2) rfl)) rfl) itX1 tyX1 tyX1_ok rfl [.null, .null, .null, .null, .null, .int 0, .int 0, .int 0, .int 0, .int 0, .int 0, .int 0, .int 0, .int 0] df_X1 (by rw [hQ]; decide) (by rw [hQ]; decide) (fun q11 => ?_)
  refine gn_dup (pc := 36) C dX0_init_36 rfl ?_
  refine gn_initN (pc := 37) C (ok_X1_init) (tq_Nn C ("TearsQueue$Chances", 21, "TearsQueue$Evening") (List.mem_of_getElem? (i := 4) rfl)) (tq_mem (tb_1 (List.mem_of_getElem? (i := 2) rfl)) rfl) (tq_mem (tb_1 (List.mem_of_getElem? (i := 28) rfl)) rfl) (tq_mem (tb_1 (List.mem_of_getElem? (i := 29) rfl)) rfl) (by decide +kernel) rfl (by decide) rfl (by rw [hQ]; decide) (by rw [hQ]; decide) dX0_init_37 (fun u12 => ?_)
  refine gn_aast (pc := 40) C dX0_init_40 1 27 rfl rfl rfl rfl (vp_in_nI (n := 4) (by decide) (by decide)) ((h, .inr (0, [.ref q1, .ref q2, .long 0])) :: ((q1, .inl ((tq_la X).2.2 4, 9, .inr (.inr (.inr (.inr (va_up (va_up (va_up (va_up (va_up (fun _ => none) 0 (some q3)) 1 (some q5)) 2 (some q7)) 3 (some q9)) 4 (some q11))))))) :: ((q2, .inl ((tq_la X).2.2 3, 5, .inr (.inl (fun _ => 0)))) :: ((wn_X1 (tq_la X) q3 u4 ++ ((wn_X1 (tq_la X) q5 u6 ++ ((wn_X1 (tq_la X) q7 u8 ++ ((wn_X1 (tq_la X) q9 u10 ++ ((wn_X1 (tq_la X) q11 u12 ++ []))))))))))))) rfl ?_
  refine gn_iinc (pc := 41) (j := 0) (v := 5) C dX0_init_41 [(1, .int 5), (0, .ref h)] rfl (by decide) (by decide) rfl ?_
  refine gn_goto (pc := 44) C dX0_init_44 22 (by decide) ?_
  refine gn_iload_n (pc := 22) C dX0_init_22 0 rfl rfl ?_
  refine gn_bipush (pc := 23) (v := 8) C dX0_init_23 (by decide) ?_
  refine gn_ic_gt (pc := 25) C dX0_init_25 47 (by decide) (fun c9 => absurd c9 (by decide)) (fun c9 => ?_)
  refine gn_aload_n (pc := 28) C dX0_init_28 1 rfl rfl ?_
  refine gn_get (pc := 29) C dX0_init_29 rfl itX0 0 (by decide) (tq_mem (tb_1 (List.mem_of_getElem? (i := 197) rfl)) rfl) rfl ?_
  refine gn_iload_n (pc := 32) C dX0_init_32 0 rfl rfl ?_
  refine gn_new (pc := 33) (ci := 1) C dX0_init_33 (tq_mem (tb_1 (List.mem_of_getElem? (i := 195) rfl)) rfl) (tq_mem (tb_1 (List.mem_of_getElem? (i := 26) rfl)) rfl) (tq_mem (tb_1 (List.mem_of_getElem? (i := 2) rfl)) rfl) itX1 tyX1 tyX1_ok rfl [.null, .null, .null, .null, .null, .int 0, .int 0, .int 0, .int 0, .int 0, .int 0, .int 0, .int 0, .int 0] df_X1 (by rw [hQ]; decide) (by rw [hQ]; decide) (fun q13 => ?_)
  refine gn_dup (pc := 36) C dX0_init_36 rfl ?_
  refine gn_initN (pc := 37) C (ok_X1_init) (tq_Nn C ("TearsQueue$Chances", 21, "TearsQueue$Evening") (List.mem_of_getElem? (i := 4) rfl)) (tq_mem (tb_1 (List.mem_of_getElem? (i := 2) rfl)) rfl) (tq_mem (tb_1 (List.mem_of_getElem? (i := 28) rfl)) rfl) (tq_mem (tb_1 (List.mem_of_getElem? (i := 29) rfl)) rfl) (by decide +kernel) rfl (by decide) rfl (by rw [hQ]; decide) (by rw [hQ]; decide) dX0_init_37 (fun u14 => ?_)
  refine gn_aast (pc := 40) C dX0_init_40 1 33 rfl rfl rfl rfl (vp_in_nI (n := 5) (by decide) (by decide)) ((h, .inr (0, [.ref q1, .ref q2, .long 0])) :: ((q1, .inl ((tq_la X).2.2 4, 9, .inr (.inr (.inr (.inr (va_up (va_up (va_up (va_up (va_up (va_up (fun _ => none) 0 (some q3)) 1 (some q5)) 2 (some q7)) 3 (some q9)) 4 (some q11)) 5 (some q13))))))) :: ((q2, .inl ((tq_la X).2.2 3, 5, .inr (.inl (fun _ => 0)))) :: ((wn_X1 (tq_la X) q3 u4 ++ ((wn_X1 (tq_la X) q5 u6 ++ ((wn_X1 (tq_la X) q7 u8 ++ ((wn_X1 (tq_la X) q9 u10 ++ ((wn_X1 (tq_la X) q11 u12 ++ ((wn_X1 (tq_la X) q13 u14 ++ []))))))))))))))) rfl ?_
  refine gn_iinc (pc := 41) (j := 0) (v := 6) C dX0_init_41 [(1, .int 6), (0, .ref h)] rfl (by decide) (by decide) rfl ?_
  refine gn_goto (pc := 44) C dX0_init_44 22 (by decide) ?_
  refine gn_iload_n (pc := 22) C dX0_init_22 0 rfl rfl ?_
  refine gn_bipush (pc := 23) (v := 8) C dX0_init_23 (by decide) ?_
  refine gn_ic_gt (pc := 25) C dX0_init_25 47 (by decide) (fun c9 => absurd c9 (by decide)) (fun c9 => ?_)
  refine gn_aload_n (pc := 28) C dX0_init_28 1 rfl rfl ?_
  refine gn_get (pc := 29) C dX0_init_29 rfl itX0 0 (by decide) (tq_mem (tb_1 (List.mem_of_getElem? (i := 197) rfl)) rfl) rfl ?_
  refine gn_iload_n (pc := 32) C dX0_init_32 0 rfl rfl ?_
  refine gn_new (pc := 33) (ci := 1) C dX0_init_33 (tq_mem (tb_1 (List.mem_of_getElem? (i := 195) rfl)) rfl) (tq_mem (tb_1 (List.mem_of_getElem? (i := 26) rfl)) rfl) (tq_mem (tb_1 (List.mem_of_getElem? (i := 2) rfl)) rfl) itX1 tyX1 tyX1_ok rfl [.null, .null, .null, .null, .null, .int 0, .int 0, .int 0, .int 0, .int 0, .int 0, .int 0, .int 0, .int 0] df_X1 (by rw [hQ]; decide) (by rw [hQ]; decide) (fun q15 => ?_)
  refine gn_dup (pc := 36) C dX0_init_36 rfl ?_
  refine gn_initN (pc := 37) C (ok_X1_init) (tq_Nn C ("TearsQueue$Chances", 21, "TearsQueue$Evening") (List.mem_of_getElem? (i := 4) rfl)) (tq_mem (tb_1 (List.mem_of_getElem? (i := 2) rfl)) rfl) (tq_mem (tb_1 (List.mem_of_getElem? (i := 28) rfl)) rfl) (tq_mem (tb_1 (List.mem_of_getElem? (i := 29) rfl)) rfl) (by decide +kernel) rfl (by decide) rfl (by rw [hQ]; decide) (by rw [hQ]; decide) dX0_init_37 (fun u16 => ?_)
  refine gn_aast (pc := 40) C dX0_init_40 1 39 rfl rfl rfl rfl (vp_in_nI (n := 6) (by decide) (by decide)) ((h, .inr (0, [.ref q1, .ref q2, .long 0])) :: ((q1, .inl ((tq_la X).2.2 4, 9, .inr (.inr (.inr (.inr (va_up (va_up (va_up (va_up (va_up (va_up (va_up (fun _ => none) 0 (some q3)) 1 (some q5)) 2 (some q7)) 3 (some q9)) 4 (some q11)) 5 (some q13)) 6 (some q15))))))) :: ((q2, .inl ((tq_la X).2.2 3, 5, .inr (.inl (fun _ => 0)))) :: ((wn_X1 (tq_la X) q3 u4 ++ ((wn_X1 (tq_la X) q5 u6 ++ ((wn_X1 (tq_la X) q7 u8 ++ ((wn_X1 (tq_la X) q9 u10 ++ ((wn_X1 (tq_la X) q11 u12 ++ ((wn_X1 (tq_la X) q13 u14 ++ ((wn_X1 (tq_la X) q15 u16 ++ []))))))))))))))))) rfl ?_
  refine gn_iinc (pc := 41) (j := 0) (v := 7) C dX0_init_41 [(1, .int 7), (0, .ref h)] rfl (by decide) (by decide) rfl ?_
  refine gn_goto (pc := 44) C dX0_init_44 22 (by decide) ?_
  refine gn_iload_n (pc := 22) C dX0_init_22 0 rfl rfl ?_
  refine gn_bipush (pc := 23) (v := 8) C dX0_init_23 (by decide) ?_
  refine gn_ic_gt (pc := 25) C dX0_init_25 47 (by decide) (fun c9 => absurd c9 (by decide)) (fun c9 => ?_)
  refine gn_aload_n (pc := 28) C dX0_init_28 1 rfl rfl ?_
  refine gn_get (pc := 29) C dX0_init_29 rfl itX0 0 (by decide) (tq_mem (tb_1 (List.mem_of_getElem? (i := 197) rfl)) rfl) rfl ?_
  refine gn_iload_n (pc := 32) C dX0_init_32 0 rfl rfl ?_
  refine gn_new (pc := 33) (ci := 1) C dX0_init_33 (tq_mem (tb_1 (List.mem_of_getElem? (i := 195) rfl)) rfl) (tq_mem (tb_1 (List.mem_of_getElem? (i := 26) rfl)) rfl) (tq_mem (tb_1 (List.mem_of_getElem? (i := 2) rfl)) rfl) itX1 tyX1 tyX1_ok rfl [.null, .null, .null, .null, .null, .int 0, .int 0, .int 0, .int 0, .int 0, .int 0, .int 0, .int 0, .int 0] df_X1 (by rw [hQ]; decide) (by rw [hQ]; decide) (fun q17 => ?_)
  refine gn_dup (pc := 36) C dX0_init_36 rfl ?_
  refine gn_initN (pc := 37) C (ok_X1_init) (tq_Nn C ("TearsQueue$Chances", 21, "TearsQueue$Evening") (List.mem_of_getElem? (i := 4) rfl)) (tq_mem (tb_1 (List.mem_of_getElem? (i := 2) rfl)) rfl) (tq_mem (tb_1 (List.mem_of_getElem? (i := 28) rfl)) rfl) (tq_mem (tb_1 (List.mem_of_getElem? (i := 29) rfl)) rfl) (by decide +kernel) rfl (by decide) rfl (by rw [hQ]; decide) (by rw [hQ]; decide) dX0_init_37 (fun u18 => ?_)
  refine gn_aast (pc := 40) C dX0_init_40 1 45 rfl rfl rfl rfl (vp_in_nI (n := 7) (by decide) (by decide)) ((h, .inr (0, [.ref q1, .ref q2, .long 0])) :: ((q1, .inl ((tq_la X).2.2 4, 9, .inr (.inr (.inr (.inr (va_up (va_up (va_up (va_up (va_up (va_up (va_up (va_up (fun _ => none) 0 (some q3)) 1 (some q5)) 2 (some q7)) 3 (some q9)) 4 (some q11)) 5 (some q13)) 6 (some q15)) 7 (some q17))))))) :: ((q2, .inl ((tq_la X).2.2 3, 5, .inr (.inl (fun _ => 0)))) :: ((wn_X1 (tq_la X) q3 u4 ++ ((wn_X1 (tq_la X) q5 u6 ++ ((wn_X1 (tq_la X) q7 u8 ++ ((wn_X1 (tq_la X) q9 u10 ++ ((wn_X1 (tq_la X) q11 u12 ++ ((wn_X1 (tq_la X) q13 u14 ++ ((wn_X1 (tq_la X) q15 u16 ++ ((wn_X1 (tq_la X) q17 u18 ++ []))))))))))))))))))) rfl ?_
  refine gn_iinc (pc := 41) (j := 0) (v := 8) C dX0_init_41 [(1, .int 8), (0, .ref h)] rfl (by decide) (by decide) rfl ?_
  refine gn_goto (pc := 44) C dX0_init_44 22 (by decide) ?_
  refine gn_iload_n (pc := 22) C dX0_init_22 0 rfl rfl ?_
  refine gn_bipush (pc := 23) (v := 8) C dX0_init_23 (by decide) ?_
  refine gn_ic_gt (pc := 25) C dX0_init_25 47 (by decide) (fun c9 => absurd c9 (by decide)) (fun c9 => ?_)
  refine gn_aload_n (pc := 28) C dX0_init_28 1 rfl rfl ?_
  refine gn_get (pc := 29) C dX0_init_29 rfl itX0 0 (by decide) (tq_mem (tb_1 (List.mem_of_getElem? (i := 197) rfl)) rfl) rfl ?_
  refine gn_iload_n (pc := 32) C dX0_init_32 0 rfl rfl ?_
  refine gn_new (pc := 33) (ci := 1) C dX0_init_33 (tq_mem (tb_1 (List.mem_of_getElem? (i := 195) rfl)) rfl) (tq_mem (tb_1 (List.mem_of_getElem? (i := 26) rfl)) rfl) (tq_mem (tb_1 (List.mem_of_getElem? (i := 2) rfl)) rfl) itX1 tyX1 tyX1_ok rfl [.null, .null, .null, .null, .null, .int 0, .int 0, .int 0, .int 0, .int 0, .int 0, .int 0, .int 0, .int 0] df_X1 (by rw [hQ]; decide) (by rw [hQ]; decide) (fun q19 => ?_)
  refine gn_dup (pc := 36) C dX0_init_36 rfl ?_
  refine gn_initN (pc := 37) C (ok_X1_init) (tq_Nn C ("TearsQueue$Chances", 21, "TearsQueue$Evening") (List.mem_of_getElem? (i := 4) rfl)) (tq_mem (tb_1 (List.mem_of_getElem? (i := 2) rfl)) rfl) (tq_mem (tb_1 (List.mem_of_getElem? (i := 28) rfl)) rfl) (tq_mem (tb_1 (List.mem_of_getElem? (i := 29) rfl)) rfl) (by decide +kernel) rfl (by decide) rfl (by rw [hQ]; decide) (by rw [hQ]; decide) dX0_init_37 (fun u20 => ?_)
  refine gn_aast (pc := 40) C dX0_init_40 1 51 rfl rfl rfl rfl (vp_in_nI (n := 8) (by decide) (by decide)) ((h, .inr (0, [.ref q1, .ref q2, .long 0])) :: ((q1, .inl ((tq_la X).2.2 4, 9, .inr (.inr (.inr (.inr (va_up (va_up (va_up (va_up (va_up (va_up (va_up (va_up (va_up (fun _ => none) 0 (some q3)) 1 (some q5)) 2 (some q7)) 3 (some q9)) 4 (some q11)) 5 (some q13)) 6 (some q15)) 7 (some q17)) 8 (some q19))))))) :: ((q2, .inl ((tq_la X).2.2 3, 5, .inr (.inl (fun _ => 0)))) :: ((wn_X1 (tq_la X) q3 u4 ++ ((wn_X1 (tq_la X) q5 u6 ++ ((wn_X1 (tq_la X) q7 u8 ++ ((wn_X1 (tq_la X) q9 u10 ++ ((wn_X1 (tq_la X) q11 u12 ++ ((wn_X1 (tq_la X) q13 u14 ++ ((wn_X1 (tq_la X) q15 u16 ++ ((wn_X1 (tq_la X) q17 u18 ++ ((wn_X1 (tq_la X) q19 u20 ++ []))))))))))))))))))))) rfl ?_
  refine gn_iinc (pc := 41) (j := 0) (v := 9) C dX0_init_41 [(1, .int 9), (0, .ref h)] rfl (by decide) (by decide) rfl ?_
  refine gn_goto (pc := 44) C dX0_init_44 22 (by decide) ?_
  refine gn_iload_n (pc := 22) C dX0_init_22 0 rfl rfl ?_
  refine gn_bipush (pc := 23) (v := 8) C dX0_init_23 (by decide) ?_
  refine gn_ic_gt (pc := 25) C dX0_init_25 47 (by decide) (fun c9 => ?_) (fun c9 => absurd (by decide) c9)
  exact hR (fun i => if i = 0 then q1 else if i = 1 then q2 else if i = 2 then q3 else if i < 8 then u4 (i - 3) else if i = 8 then q5 else if i < 14 then u6 (i - 9) else if i = 14 then q7 else if i < 20 then u8 (i - 15) else if i = 20 then q9 else if i < 26 then u10 (i - 21) else if i = 26 then q11 else if i < 32 then u12 (i - 27) else if i = 32 then q13 else if i < 38 then u14 (i - 33) else if i = 38 then q15 else if i < 44 then u16 (i - 39) else if i = 44 then q17 else if i < 50 then u18 (i - 45) else if i = 50 then q19 else if i < 56 then u20 (i - 51) else 0) _ _ dX0_init_47
end
section
def wn_X6 (a : tq_La) (h : Nat) (u : Nat → Nat) : va_W := ((h, .inr (6, [.ref (u 0), .ref (u 6), .ref (u 12), .ref (u 20), .ref (u 23), .ref (u 57), .ref (u 114), .ref (u 115), .ref (u 116), .ref (u 117), .int 0])) :: (wn_X1 a (u 0) (fun i => u (1 + i)) ++ (wn_X1 a (u 6) (fun i => u (7 + i)) ++ (wn_X5 a (u 12) (fun i => u (13 + i)) ++ (wn_X4 a (u 20) (fun i => u (21 + i)) ++ (wn_X2 a (u 23) (fun i => u (24 + i)) ++ (wn_X0 a (u 57) (fun i => u (58 + i)) ++ (((u 114), .inl (a.2.2 4, 2, .inr (.inr (.inr (.inr (va_up (va_up (fun _ => none) 0 (some (u 118))) 1 (some (u 124)))))))) :: (((u 115), .inl (a.2.2 2, 2, .inl (fun _ => 0))) :: (((u 116), .inl (a.2.2 5, 4, .inr (.inr (.inr (.inr (va_up (va_up (va_up (va_up (fun _ => none) 0 (some (u 130))) 1 (some (u 132))) 2 (some (u 134))) 3 (some (u 136)))))))) :: (((u 117), .inl (a.2.2 0, 21, .inl (fun _ => 0))) :: (wn_X1 a (u 118) (fun i => u (119 + i)) ++ (wn_X1 a (u 124) (fun i => u (125 + i)) ++ (wn_X3 a (u 130) (fun i => u (131 + i)) ++ (wn_X3 a (u 132) (fun i => u (133 + i)) ++ (wn_X3 a (u 134) (fun i => u (135 + i)) ++ (wn_X3 a (u 136) (fun i => u (137 + i)) ++ [])))))))))))))))))
set_option maxRecDepth 100000 in
set_option maxHeartbeats 8000000 in
theorem ok_X6_init : tq_MI yX6_init cX6_init 2 3 138 1224 6 [.null, .null, .null, .null, .null, .null, .null, .null, .null, .null, .int 0] wn_X6 := by
  refine tq_mkC (by decide) rfl (by decide) ?_
  intro X h C hQ hR
  refine gn_aload_n (pc := 0) C dX6_init_0 0 rfl rfl ?_
  refine gn_objInit (pc := 1) C (by decide) (tq_mem (tb_1 (List.mem_of_getElem? (i := 22) rfl)) rfl) (tq_mem (tb_1 (List.mem_of_getElem? (i := 23) rfl)) rfl) (tq_mem (tb_1 (List.mem_of_getElem? (i := 24) rfl)) rfl) dX6_init_1 ?_
  refine gn_aload_n (pc := 4) C dX6_init_4 0 rfl rfl ?_
  refine gn_new (pc := 5) (ci := 1) C dX6_init_5 (tq_mem (tb_1 (List.mem_of_getElem? (i := 25) rfl)) rfl) (tq_mem (tb_1 (List.mem_of_getElem? (i := 26) rfl)) rfl) (tq_mem (tb_1 (List.mem_of_getElem? (i := 2) rfl)) rfl) itX1 tyX1 tyX1_ok rfl [.null, .null, .null, .null, .null, .int 0, .int 0, .int 0, .int 0, .int 0, .int 0, .int 0, .int 0, .int 0] df_X1 (by rw [hQ]; decide) (by rw [hQ]; decide) (fun q1 => ?_)
  refine gn_dup (pc := 8) C dX6_init_8 rfl ?_
  refine gn_initN (pc := 9) C (ok_X1_init) (tq_Nn C ("TearsQueue", 9, "TearsQueue$Evening") (List.mem_of_getElem? (i := 3) rfl)) (tq_mem (tb_1 (List.mem_of_getElem? (i := 2) rfl)) rfl) (tq_mem (tb_1 (List.mem_of_getElem? (i := 28) rfl)) rfl) (tq_mem (tb_1 (List.mem_of_getElem? (i := 29) rfl)) rfl) (by decide +kernel) rfl (by decide) rfl (by rw [hQ]; decide) (by rw [hQ]; decide) dX6_init_9 (fun u2 => ?_)
  refine gn_putF (pc := 12) C dX6_init_12 rfl itX6 tyX6 tyX6_ok nmX6 0 (by decide) (tq_mem (tb_1 (List.mem_of_getElem? (i := 233) rfl)) rfl) rfl rfl (ty := tyX6 0) (by decide +kernel) rfl rfl (Nat.le_of_ble_eq_true rfl) [.ref q1, .null, .null, .null, .null, .null, .null, .null, .null, .null, .int 0] rfl ?_
  refine gn_aload_n (pc := 15) C dX6_init_15 0 rfl rfl ?_
  refine gn_new (pc := 16) (ci := 1) C dX6_init_16 (tq_mem (tb_1 (List.mem_of_getElem? (i := 25) rfl)) rfl) (tq_mem (tb_1 (List.mem_of_getElem? (i := 26) rfl)) rfl) (tq_mem (tb_1 (List.mem_of_getElem? (i := 2) rfl)) rfl) itX1 tyX1 tyX1_ok rfl [.null, .null, .null, .null, .null, .int 0, .int 0, .int 0, .int 0, .int 0, .int 0, .int 0, .int 0, .int 0] df_X1 (by rw [hQ]; decide) (by rw [hQ]; decide) (fun q3 => ?_)
  refine gn_dup (pc := 19) C dX6_init_19 rfl ?_
  refine gn_initN (pc := 20) C (ok_X1_init) (tq_Nn C ("TearsQueue", 9, "TearsQueue$Evening") (List.mem_of_getElem? (i := 3) rfl)) (tq_mem (tb_1 (List.mem_of_getElem? (i := 2) rfl)) rfl) (tq_mem (tb_1 (List.mem_of_getElem? (i := 28) rfl)) rfl) (tq_mem (tb_1 (List.mem_of_getElem? (i := 29) rfl)) rfl) (by decide +kernel) rfl (by decide) rfl (by rw [hQ]; decide) (by rw [hQ]; decide) dX6_init_20 (fun u4 => ?_)
  refine gn_putF (pc := 23) C dX6_init_23 rfl itX6 tyX6 tyX6_ok nmX6 1 (by decide) (tq_mem (tb_1 (List.mem_of_getElem? (i := 234) rfl)) rfl) rfl rfl (ty := tyX6 1) (by decide +kernel) rfl rfl (Nat.le_of_ble_eq_true rfl) [.ref q1, .ref q3, .null, .null, .null, .null, .null, .null, .null, .null, .int 0] rfl ?_
  refine gn_aload_n (pc := 26) C dX6_init_26 0 rfl rfl ?_
  refine gn_new (pc := 27) (ci := 5) C dX6_init_27 (tq_mem (tb_1 (List.mem_of_getElem? (i := 97) rfl)) rfl) (tq_mem (tb_1 (List.mem_of_getElem? (i := 98) rfl)) rfl) (tq_mem (tb_1 (List.mem_of_getElem? (i := 3) rfl)) rfl) itX5 tyX5 tyX5_ok rfl [.null, .null, .int 0, .int 0, .int 0, .int 0, .int 0, .int 0, .int 0, .int 0] df_X5 (by rw [hQ]; decide) (by rw [hQ]; decide) (fun q5 => ?_)
  refine gn_dup (pc := 30) C dX6_init_30 rfl ?_
  refine gn_initN (pc := 31) C (ok_X5_init) (tq_Nn C ("TearsQueue", 21, "TearsQueue$Tape") (List.mem_of_getElem? (i := 0) rfl)) (tq_mem (tb_1 (List.mem_of_getElem? (i := 3) rfl)) rfl) (tq_mem (tb_1 (List.mem_of_getElem? (i := 100) rfl)) rfl) (tq_mem (tb_1 (List.mem_of_getElem? (i := 101) rfl)) rfl) (by decide +kernel) rfl (by decide) rfl (by rw [hQ]; decide) (by rw [hQ]; decide) dX6_init_31 (fun u6 => ?_)
  refine gn_putF (pc := 34) C dX6_init_34 rfl itX6 tyX6 tyX6_ok nmX6 2 (by decide) (tq_mem (tb_1 (List.mem_of_getElem? (i := 235) rfl)) rfl) rfl rfl (ty := tyX6 2) (by decide +kernel) rfl rfl (Nat.le_of_ble_eq_true rfl) [.ref q1, .ref q3, .ref q5, .null, .null, .null, .null, .null, .null, .null, .int 0] rfl ?_
  refine gn_aload_n (pc := 37) C dX6_init_37 0 rfl rfl ?_
  refine gn_new (pc := 38) (ci := 4) C dX6_init_38 (tq_mem (tb_1 (List.mem_of_getElem? (i := 140) rfl)) rfl) (tq_mem (tb_1 (List.mem_of_getElem? (i := 141) rfl)) rfl) (tq_mem (tb_1 (List.mem_of_getElem? (i := 4) rfl)) rfl) itX4 tyX4 tyX4_ok rfl [.null, .null, .int 0] df_X4 (by rw [hQ]; decide) (by rw [hQ]; decide) (fun q7 => ?_)
  refine gn_dup (pc := 41) C dX6_init_41 rfl ?_
  refine gn_initN (pc := 42) C (ok_X4_init) (tq_Nn C ("TearsQueue", 28, "TearsQueue$Sightings") (List.mem_of_getElem? (i := 1) rfl)) (tq_mem (tb_1 (List.mem_of_getElem? (i := 4) rfl)) rfl) (tq_mem (tb_1 (List.mem_of_getElem? (i := 143) rfl)) rfl) (tq_mem (tb_1 (List.mem_of_getElem? (i := 144) rfl)) rfl) (by decide +kernel) rfl (by decide) rfl (by rw [hQ]; decide) (by rw [hQ]; decide) dX6_init_42 (fun u8 => ?_)
  refine gn_putF (pc := 45) C dX6_init_45 rfl itX6 tyX6 tyX6_ok nmX6 3 (by decide) (tq_mem (tb_1 (List.mem_of_getElem? (i := 236) rfl)) rfl) rfl rfl (ty := tyX6 3) (by decide +kernel) rfl rfl (Nat.le_of_ble_eq_true rfl) [.ref q1, .ref q3, .ref q5, .ref q7, .null, .null, .null, .null, .null, .null, .int 0] rfl ?_
  refine gn_aload_n (pc := 48) C dX6_init_48 0 rfl rfl ?_
  refine gn_new (pc := 49) (ci := 2) C dX6_init_49 (tq_mem (tb_1 (List.mem_of_getElem? (i := 158) rfl)) rfl) (tq_mem (tb_1 (List.mem_of_getElem? (i := 159) rfl)) rfl) (tq_mem (tb_1 (List.mem_of_getElem? (i := 5) rfl)) rfl) itX2 tyX2 tyX2_ok rfl [.null, .null, .null, .int 0, .int 0, .int 0] df_X2 (by rw [hQ]; decide) (by rw [hQ]; decide) (fun q9 => ?_)
  refine gn_dup (pc := 52) C dX6_init_52 rfl ?_
  refine gn_init (pc := 53) C (ok_X2_init) (tq_mem (tb_1 (List.mem_of_getElem? (i := 160) rfl)) rfl) (tq_mem (tb_1 (List.mem_of_getElem? (i := 5) rfl)) rfl) (tq_mem (tb_1 (List.mem_of_getElem? (i := 161) rfl)) rfl) (tq_mem (tb_1 (List.mem_of_getElem? (i := 162) rfl)) rfl) (by decide +kernel) rfl (by decide) rfl (by rw [hQ]; decide) (by rw [hQ]; decide) dX6_init_53 (fun u10 => ?_)
  refine gn_putF (pc := 56) C dX6_init_56 rfl itX6 tyX6 tyX6_ok nmX6 4 (by decide) (tq_mem (tb_1 (List.mem_of_getElem? (i := 237) rfl)) rfl) rfl rfl (ty := tyX6 4) (by decide +kernel) rfl rfl (Nat.le_of_ble_eq_true rfl) [.ref q1, .ref q3, .ref q5, .ref q7, .ref q9, .null, .null, .null, .null, .null, .int 0] rfl ?_
  refine gn_aload_n (pc := 59) C dX6_init_59 0 rfl rfl ?_
  refine gn_new (pc := 60) (ci := 0) C dX6_init_60 (tq_mem (tb_1 (List.mem_of_getElem? (i := 189) rfl)) rfl) (tq_mem (tb_1 (List.mem_of_getElem? (i := 190) rfl)) rfl) (tq_mem (tb_1 (List.mem_of_getElem? (i := 6) rfl)) rfl) itX0 tyX0 tyX0_ok rfl [.null, .null, .long 0] df_X0 (by rw [hQ]; decide) (by rw [hQ]; decide) (fun q11 => ?_)
  refine gn_dup (pc := 63) C dX6_init_63 rfl ?_
  refine gn_init (pc := 64) C (ok_X0_init) (tq_mem (tb_1 (List.mem_of_getElem? (i := 191) rfl)) rfl) (tq_mem (tb_1 (List.mem_of_getElem? (i := 6) rfl)) rfl) (tq_mem (tb_1 (List.mem_of_getElem? (i := 192) rfl)) rfl) (tq_mem (tb_1 (List.mem_of_getElem? (i := 193) rfl)) rfl) (by decide +kernel) rfl (by decide) rfl (by rw [hQ]; decide) (by rw [hQ]; decide) dX6_init_64 (fun u12 => ?_)
  refine gn_putF (pc := 67) C dX6_init_67 rfl itX6 tyX6 tyX6_ok nmX6 5 (by decide) (tq_mem (tb_1 (List.mem_of_getElem? (i := 238) rfl)) rfl) rfl rfl (ty := tyX6 5) (by decide +kernel) rfl rfl (Nat.le_of_ble_eq_true rfl) [.ref q1, .ref q3, .ref q5, .ref q7, .ref q9, .ref q11, .null, .null, .null, .null, .int 0] rfl ?_
  refine gn_aload_n (pc := 70) C dX6_init_70 0 rfl rfl ?_
  refine gn_iconst (pc := 71) (v := 2) C dX6_init_71 (by decide) ?_
  refine gn_anew (pc := 72) C dX6_init_72 (tq_mem (tb_1 (List.mem_of_getElem? (i := 25) rfl)) rfl) (tq_AOX1 C) 4 rfl 2 (by decide) (by decide) (by decide) (by rw [hQ]; decide) (by rw [hQ]; decide) (fun q13 => ?_)
  refine gn_putF (pc := 75) C dX6_init_75 rfl itX6 tyX6 tyX6_ok nmX6 6 (by decide) (tq_mem (tb_1 (List.mem_of_getElem? (i := 239) rfl)) rfl) rfl rfl (ty := tyX6 6) (by decide +kernel) rfl rfl (Nat.le_of_ble_eq_true rfl) [.ref q1, .ref q3, .ref q5, .ref q7, .ref q9, .ref q11, .ref q13, .null, .null, .null, .int 0] rfl ?_
  refine gn_aload_n (pc := 78) C dX6_init_78 0 rfl rfl ?_
  refine gn_iconst (pc := 79) (v := 2) C dX6_init_79 (by decide) ?_
  refine gn_newa (pc := 80) C dX6_init_80 rfl (tq_mem (tb_1 (List.mem_of_getElem? (i := 157) rfl)) rfl) 2 rfl 2 (2, .inl (fun _ => 0)) (fun cA => rfl) (by decide) (by decide) (by decide) (by rw [hQ]; decide) (by rw [hQ]; decide) (fun q14 => ?_)
  refine gn_putF (pc := 82) C dX6_init_82 rfl itX6 tyX6 tyX6_ok nmX6 7 (by decide) (tq_mem (tb_2 (List.mem_of_getElem? (i := 0) rfl)) rfl) rfl rfl (ty := tyX6 7) (by decide +kernel) rfl rfl (Nat.le_of_ble_eq_true rfl) [.ref q1, .ref q3, .ref q5, .ref q7, .ref q9, .ref q11, .ref q13, .ref q14, .null, .null, .int 0] rfl ?_
  refine gn_aload_n (pc := 85) C dX6_init_85 0 rfl rfl ?_
  refine gn_iconst (pc := 86) (v := 4) C dX6_init_86 (by decide) ?_
  refine gn_anew (pc := 87) C dX6_init_87 (tq_mem (tb_1 (List.mem_of_getElem? (i := 209) rfl)) rfl) (tq_AOX3 C) 5 rfl 4 (by decide) (by decide) (by decide) (by rw [hQ]; decide) (by rw [hQ]; decide) (fun q15 => ?_)
  refine gn_putF (pc := 90) C dX6_init_90 rfl itX6 tyX6 tyX6_ok nmX6 8 (by decide) (tq_mem (tb_2 (List.mem_of_getElem? (i := 1) rfl)) rfl) rfl rfl (ty := tyX6 8) (by decide +kernel) rfl rfl (Nat.le_of_ble_eq_true rfl) [.ref q1, .ref q3, .ref q5, .ref q7, .ref q9, .ref q11, .ref q13, .ref q14, .ref q15, .null, .int 0] rfl ?_
  refine gn_aload_n (pc := 93) C dX6_init_93 0 rfl rfl ?_
  refine gn_bipush (pc := 94) (v := 21) C dX6_init_94 (by decide) ?_
  refine gn_newa (pc := 96) C dX6_init_96 rfl (tq_mem (tb_1 (List.mem_of_getElem? (i := 96) rfl)) rfl) 0 rfl 21 (21, .inl (fun _ => 0)) (fun cA => rfl) (by decide) (by decide) (by decide) (by rw [hQ]; decide) (by rw [hQ]; decide) (fun q16 => ?_)
  refine gn_putF (pc := 98) C dX6_init_98 rfl itX6 tyX6 tyX6_ok nmX6 9 (by decide) (tq_mem (tb_2 (List.mem_of_getElem? (i := 2) rfl)) rfl) rfl rfl (ty := tyX6 9) (by decide +kernel) rfl rfl (Nat.le_of_ble_eq_true rfl) [.ref q1, .ref q3, .ref q5, .ref q7, .ref q9, .ref q11, .ref q13, .ref q14, .ref q15, .ref q16, .int 0] rfl ?_
  refine gn_iconst (pc := 101) (v := 0) C dX6_init_101 (by decide) ?_
  refine gn_istore_n (pc := 102) C dX6_init_102 [(1, .int 0), (0, .ref h)] rfl (by decide) rfl ?_
  refine gn_iload_n (pc := 103) C dX6_init_103 0 rfl rfl ?_
  refine gn_iconst (pc := 104) (v := 2) C dX6_init_104 (by decide) ?_
  refine gn_ic_ge (pc := 105) C dX6_init_105 127 (by decide) (fun c9 => absurd c9 (by decide)) (fun c9 => ?_)
  refine gn_aload_n (pc := 108) C dX6_init_108 1 rfl rfl ?_
  refine gn_get (pc := 109) C dX6_init_109 rfl itX6 6 (by decide) (tq_mem (tb_1 (List.mem_of_getElem? (i := 239) rfl)) rfl) rfl ?_
  refine gn_iload_n (pc := 112) C dX6_init_112 0 rfl rfl ?_
  refine gn_new (pc := 113) (ci := 1) C dX6_init_113 (tq_mem (tb_1 (List.mem_of_getElem? (i := 25) rfl)) rfl) (tq_mem (tb_1 (List.mem_of_getElem? (i := 26) rfl)) rfl) (tq_mem (tb_1 (List.mem_of_getElem? (i := 2) rfl)) rfl) itX1 tyX1 tyX1_ok rfl [.null, .null, .null, .null, .null, .int 0, .int 0, .int 0, .int 0, .int 0, .int 0, .int 0, .int 0, .int 0] df_X1 (by rw [hQ]; decide) (by rw [hQ]; decide) (fun q17 => ?_)
  refine gn_dup (pc := 116) C dX6_init_116 rfl ?_
  refine gn_initN (pc := 117) C (ok_X1_init) (tq_Nn C ("TearsQueue", 9, "TearsQueue$Evening") (List.mem_of_getElem? (i := 3) rfl)) (tq_mem (tb_1 (List.mem_of_getElem? (i := 2) rfl)) rfl) (tq_mem (tb_1 (List.mem_of_getElem? (i := 28) rfl)) rfl) (tq_mem (tb_1 (List.mem_of_getElem? (i := 29) rfl)) rfl) (by decide +kernel) rfl (by decide) rfl (by rw [hQ]; decide) (by rw [hQ]; decide) dX6_init_117 (fun u18 => ?_)
  refine gn_aast (pc := 120) C dX6_init_120 115 119 rfl rfl rfl rfl (vp_in_nI (n := 0) (by decide) (by decide)) ((h, .inr (6, [.ref q1, .ref q3, .ref q5, .ref q7, .ref q9, .ref q11, .ref q13, .ref q14, .ref q15, .ref q16, .int 0])) :: ((wn_X1 (tq_la X) q1 u2 ++ ((wn_X1 (tq_la X) q3 u4 ++ ((wn_X5 (tq_la X) q5 u6 ++ ((wn_X4 (tq_la X) q7 u8 ++ ((wn_X2 (tq_la X) q9 u10 ++ ((wn_X0 (tq_la X) q11 u12 ++ ((q13, .inl ((tq_la X).2.2 4, 2, .inr (.inr (.inr (.inr (va_up (fun _ => none) 0 (some q17))))))) :: ((q14, .inl ((tq_la X).2.2 2, 2, .inl (fun _ => 0))) :: ((q15, .inl ((tq_la X).2.2 5, 4, .inr (.inr (.inr (.inr (fun _ => none)))))) :: ((q16, .inl ((tq_la X).2.2 0, 21, .inl (fun _ => 0))) :: ((wn_X1 (tq_la X) q17 u18 ++ []))))))))))))))))))) rfl ?_
  refine gn_iinc (pc := 121) (j := 0) (v := 1) C dX6_init_121 [(1, .int 1), (0, .ref h)] rfl (by decide) (by decide) rfl ?_
  refine gn_goto (pc := 124) C dX6_init_124 103 (by decide) ?_
  refine gn_iload_n (pc := 103) C dX6_init_103 0 rfl rfl ?_
  refine gn_iconst (pc := 104) (v := 2) C dX6_init_104 (by decide) ?_
  refine gn_ic_ge (pc := 105) C dX6_init_105 127 (by decide) (fun c9 => absurd c9 (by decide)) (fun c9 => ?_)
  refine gn_aload_n (pc := 108) C dX6_init_108 1 rfl rfl ?_
  refine gn_get (pc := 109) C dX6_init_109 rfl itX6 6 (by decide) (tq_mem (tb_1 (List.mem_of_getElem? (i := 239) rfl)) rfl) rfl ?_
  refine gn_iload_n (pc := 112) C dX6_init_112 0 rfl rfl ?_
  refine gn_new (pc := 113) (ci := 1) C dX6_init_113 (tq_mem (tb_1 (List.mem_of_getElem? (i := 25) rfl)) rfl) (tq_mem (tb_1 (List.mem_of_getElem? (i := 26) rfl)) rfl) (tq_mem (tb_1 (List.mem_of_getElem? (i := 2) rfl)) rfl) itX1 tyX1 tyX1_ok rfl [.null, .null, .null, .null, .null, .int 0, .int 0, .int 0, .int 0, .int 0, .int 0, .int 0, .int 0, .int 0] df_X1 (by rw [hQ]; decide) (by rw [hQ]; decide) (fun q19 => ?_)
  refine gn_dup (pc := 116) C dX6_init_116 rfl ?_
  refine gn_initN (pc := 117) C (ok_X1_init) (tq_Nn C ("TearsQueue", 9, "TearsQueue$Evening") (List.mem_of_getElem? (i := 3) rfl)) (tq_mem (tb_1 (List.mem_of_getElem? (i := 2) rfl)) rfl) (tq_mem (tb_1 (List.mem_of_getElem? (i := 28) rfl)) rfl) (tq_mem (tb_1 (List.mem_of_getElem? (i := 29) rfl)) rfl) (by decide +kernel) rfl (by decide) rfl (by rw [hQ]; decide) (by rw [hQ]; decide) dX6_init_117 (fun u20 => ?_)
  refine gn_aast (pc := 120) C dX6_init_120 115 125 rfl rfl rfl rfl (vp_in_nI (n := 1) (by decide) (by decide)) ((h, .inr (6, [.ref q1, .ref q3, .ref q5, .ref q7, .ref q9, .ref q11, .ref q13, .ref q14, .ref q15, .ref q16, .int 0])) :: ((wn_X1 (tq_la X) q1 u2 ++ ((wn_X1 (tq_la X) q3 u4 ++ ((wn_X5 (tq_la X) q5 u6 ++ ((wn_X4 (tq_la X) q7 u8 ++ ((wn_X2 (tq_la X) q9 u10 ++ ((wn_X0 (tq_la X) q11 u12 ++ ((q13, .inl ((tq_la X).2.2 4, 2, .inr (.inr (.inr (.inr (va_up (va_up (fun _ => none) 0 (some q17)) 1 (some q19))))))) :: ((q14, .inl ((tq_la X).2.2 2, 2, .inl (fun _ => 0))) :: ((q15, .inl ((tq_la X).2.2 5, 4, .inr (.inr (.inr (.inr (fun _ => none)))))) :: ((q16, .inl ((tq_la X).2.2 0, 21, .inl (fun _ => 0))) :: ((wn_X1 (tq_la X) q17 u18 ++ ((wn_X1 (tq_la X) q19 u20 ++ []))))))))))))))))))))) rfl ?_
  refine gn_iinc (pc := 121) (j := 0) (v := 2) C dX6_init_121 [(1, .int 2), (0, .ref h)] rfl (by decide) (by decide) rfl ?_
  refine gn_goto (pc := 124) C dX6_init_124 103 (by decide) ?_
  refine gn_iload_n (pc := 103) C dX6_init_103 0 rfl rfl ?_
  refine gn_iconst (pc := 104) (v := 2) C dX6_init_104 (by decide) ?_
  refine gn_ic_ge (pc := 105) C dX6_init_105 127 (by decide) (fun c9 => ?_) (fun c9 => absurd (by decide) c9)
  refine gn_iconst (pc := 127) (v := 0) C dX6_init_127 (by decide) ?_
  refine gn_istore_n (pc := 128) C dX6_init_128 [(1, .int 0), (0, .ref h)] rfl (by decide) rfl ?_
  refine gn_iload_n (pc := 129) C dX6_init_129 0 rfl rfl ?_
  refine gn_iconst (pc := 130) (v := 4) C dX6_init_130 (by decide) ?_
  refine gn_ic_ge (pc := 131) C dX6_init_131 153 (by decide) (fun c9 => absurd c9 (by decide)) (fun c9 => ?_)
  refine gn_aload_n (pc := 134) C dX6_init_134 1 rfl rfl ?_
  refine gn_get (pc := 135) C dX6_init_135 rfl itX6 8 (by decide) (tq_mem (tb_2 (List.mem_of_getElem? (i := 1) rfl)) rfl) rfl ?_
  refine gn_iload_n (pc := 138) C dX6_init_138 0 rfl rfl ?_
  refine gn_new (pc := 139) (ci := 3) C dX6_init_139 (tq_mem (tb_1 (List.mem_of_getElem? (i := 209) rfl)) rfl) (tq_mem (tb_1 (List.mem_of_getElem? (i := 211) rfl)) rfl) (tq_mem (tb_1 (List.mem_of_getElem? (i := 7) rfl)) rfl) itX3 tyX3 tyX3_ok rfl [.null, .int 0, .int 0, .int 0] df_X3 (by rw [hQ]; decide) (by rw [hQ]; decide) (fun q21 => ?_)
  refine gn_dup (pc := 142) C dX6_init_142 rfl ?_
  refine gn_initN (pc := 143) C (ok_X3_init) (tq_Nn C ("TearsQueue", 65, "TearsQueue$Sheet") (List.mem_of_getElem? (i := 2) rfl)) (tq_mem (tb_1 (List.mem_of_getElem? (i := 7) rfl)) rfl) (tq_mem (tb_1 (List.mem_of_getElem? (i := 213) rfl)) rfl) (tq_mem (tb_1 (List.mem_of_getElem? (i := 214) rfl)) rfl) (by decide +kernel) rfl (by decide) rfl (by rw [hQ]; decide) (by rw [hQ]; decide) dX6_init_143 (fun u22 => ?_)
  refine gn_aast (pc := 146) C dX6_init_146 117 131 rfl rfl rfl rfl (vp_in_nI (n := 0) (by decide) (by decide)) ((h, .inr (6, [.ref q1, .ref q3, .ref q5, .ref q7, .ref q9, .ref q11, .ref q13, .ref q14, .ref q15, .ref q16, .int 0])) :: ((wn_X1 (tq_la X) q1 u2 ++ ((wn_X1 (tq_la X) q3 u4 ++ ((wn_X5 (tq_la X) q5 u6 ++ ((wn_X4 (tq_la X) q7 u8 ++ ((wn_X2 (tq_la X) q9 u10 ++ ((wn_X0 (tq_la X) q11 u12 ++ ((q13, .inl ((tq_la X).2.2 4, 2, .inr (.inr (.inr (.inr (va_up (va_up (fun _ => none) 0 (some q17)) 1 (some q19))))))) :: ((q14, .inl ((tq_la X).2.2 2, 2, .inl (fun _ => 0))) :: ((q15, .inl ((tq_la X).2.2 5, 4, .inr (.inr (.inr (.inr (va_up (fun _ => none) 0 (some q21))))))) :: ((q16, .inl ((tq_la X).2.2 0, 21, .inl (fun _ => 0))) :: ((wn_X1 (tq_la X) q17 u18 ++ ((wn_X1 (tq_la X) q19 u20 ++ ((wn_X3 (tq_la X) q21 u22 ++ []))))))))))))))))))))))) rfl ?_
  refine gn_iinc (pc := 147) (j := 0) (v := 1) C dX6_init_147 [(1, .int 1), (0, .ref h)] rfl (by decide) (by decide) rfl ?_
  refine gn_goto (pc := 150) C dX6_init_150 129 (by decide) ?_
  refine gn_iload_n (pc := 129) C dX6_init_129 0 rfl rfl ?_
  refine gn_iconst (pc := 130) (v := 4) C dX6_init_130 (by decide) ?_
  refine gn_ic_ge (pc := 131) C dX6_init_131 153 (by decide) (fun c9 => absurd c9 (by decide)) (fun c9 => ?_)
  refine gn_aload_n (pc := 134) C dX6_init_134 1 rfl rfl ?_
  refine gn_get (pc := 135) C dX6_init_135 rfl itX6 8 (by decide) (tq_mem (tb_2 (List.mem_of_getElem? (i := 1) rfl)) rfl) rfl ?_
  refine gn_iload_n (pc := 138) C dX6_init_138 0 rfl rfl ?_
  refine gn_new (pc := 139) (ci := 3) C dX6_init_139 (tq_mem (tb_1 (List.mem_of_getElem? (i := 209) rfl)) rfl) (tq_mem (tb_1 (List.mem_of_getElem? (i := 211) rfl)) rfl) (tq_mem (tb_1 (List.mem_of_getElem? (i := 7) rfl)) rfl) itX3 tyX3 tyX3_ok rfl [.null, .int 0, .int 0, .int 0] df_X3 (by rw [hQ]; decide) (by rw [hQ]; decide) (fun q23 => ?_)
  refine gn_dup (pc := 142) C dX6_init_142 rfl ?_
  refine gn_initN (pc := 143) C (ok_X3_init) (tq_Nn C ("TearsQueue", 65, "TearsQueue$Sheet") (List.mem_of_getElem? (i := 2) rfl)) (tq_mem (tb_1 (List.mem_of_getElem? (i := 7) rfl)) rfl) (tq_mem (tb_1 (List.mem_of_getElem? (i := 213) rfl)) rfl) (tq_mem (tb_1 (List.mem_of_getElem? (i := 214) rfl)) rfl) (by decide +kernel) rfl (by decide) rfl (by rw [hQ]; decide) (by rw [hQ]; decide) dX6_init_143 (fun u24 => ?_)
  refine gn_aast (pc := 146) C dX6_init_146 117 133 rfl rfl rfl rfl (vp_in_nI (n := 1) (by decide) (by decide)) ((h, .inr (6, [.ref q1, .ref q3, .ref q5, .ref q7, .ref q9, .ref q11, .ref q13, .ref q14, .ref q15, .ref q16, .int 0])) :: ((wn_X1 (tq_la X) q1 u2 ++ ((wn_X1 (tq_la X) q3 u4 ++ ((wn_X5 (tq_la X) q5 u6 ++ ((wn_X4 (tq_la X) q7 u8 ++ ((wn_X2 (tq_la X) q9 u10 ++ ((wn_X0 (tq_la X) q11 u12 ++ ((q13, .inl ((tq_la X).2.2 4, 2, .inr (.inr (.inr (.inr (va_up (va_up (fun _ => none) 0 (some q17)) 1 (some q19))))))) :: ((q14, .inl ((tq_la X).2.2 2, 2, .inl (fun _ => 0))) :: ((q15, .inl ((tq_la X).2.2 5, 4, .inr (.inr (.inr (.inr (va_up (va_up (fun _ => none) 0 (some q21)) 1 (some q23))))))) :: ((q16, .inl ((tq_la X).2.2 0, 21, .inl (fun _ => 0))) :: ((wn_X1 (tq_la X) q17 u18 ++ ((wn_X1 (tq_la X) q19 u20 ++ ((wn_X3 (tq_la X) q21 u22 ++ ((wn_X3 (tq_la X) q23 u24 ++ []))))))))))))))))))))))))) rfl ?_
  refine gn_iinc (pc := 147) (j := 0) (v := 2) C dX6_init_147 [(1, .int 2), (0, .ref h)] rfl (by decide) (by decide) rfl ?_
  refine gn_goto (pc := 150) C dX6_init_150 129 (by decide) ?_
  refine gn_iload_n (pc := 129) C dX6_init_129 0 rfl rfl ?_
  refine gn_iconst (pc := 130) (v := 4) C dX6_init_130 (by decide) ?_
  refine gn_ic_ge (pc := 131) C dX6_init_131 153 (by decide) (fun c9 => absurd c9 (by decide)) (fun c9 => ?_)
  refine gn_aload_n (pc := 134) C dX6_init_134 1 rfl rfl ?_
  refine gn_get (pc := 135) C dX6_init_135 rfl itX6 8 (by decide) (tq_mem (tb_2 (List.mem_of_getElem? (i := 1) rfl)) rfl) rfl ?_
  refine gn_iload_n (pc := 138) C dX6_init_138 0 rfl rfl ?_
  refine gn_new (pc := 139) (ci := 3) C dX6_init_139 (tq_mem (tb_1 (List.mem_of_getElem? (i := 209) rfl)) rfl) (tq_mem (tb_1 (List.mem_of_getElem? (i := 211) rfl)) rfl) (tq_mem (tb_1 (List.mem_of_getElem? (i := 7) rfl)) rfl) itX3 tyX3 tyX3_ok rfl [.null, .int 0, .int 0, .int 0] df_X3 (by rw [hQ]; decide) (by rw [hQ]; decide) (fun q25 => ?_)
  refine gn_dup (pc := 142) C dX6_init_142 rfl ?_
  refine gn_initN (pc := 143) C (ok_X3_init) (tq_Nn C ("TearsQueue", 65, "TearsQueue$Sheet") (List.mem_of_getElem? (i := 2) rfl)) (tq_mem (tb_1 (List.mem_of_getElem? (i := 7) rfl)) rfl) (tq_mem (tb_1 (List.mem_of_getElem? (i := 213) rfl)) rfl) (tq_mem (tb_1 (List.mem_of_getElem? (i := 214) rfl)) rfl) (by decide +kernel) rfl (by decide) rfl (by rw [hQ]; decide) (by rw [hQ]; decide) dX6_init_143 (fun u26 => ?_)
  refine gn_aast (pc := 146) C dX6_init_146 117 135 rfl rfl rfl rfl (vp_in_nI (n := 2) (by decide) (by decide)) ((h, .inr (6, [.ref q1, .ref q3, .ref q5, .ref q7, .ref q9, .ref q11, .ref q13, .ref q14, .ref q15, .ref q16, .int 0])) :: ((wn_X1 (tq_la X) q1 u2 ++ ((wn_X1 (tq_la X) q3 u4 ++ ((wn_X5 (tq_la X) q5 u6 ++ ((wn_X4 (tq_la X) q7 u8 ++ ((wn_X2 (tq_la X) q9 u10 ++ ((wn_X0 (tq_la X) q11 u12 ++ ((q13, .inl ((tq_la X).2.2 4, 2, .inr (.inr (.inr (.inr (va_up (va_up (fun _ => none) 0 (some q17)) 1 (some q19))))))) :: ((q14, .inl ((tq_la X).2.2 2, 2, .inl (fun _ => 0))) :: ((q15, .inl ((tq_la X).2.2 5, 4, .inr (.inr (.inr (.inr (va_up (va_up (va_up (fun _ => none) 0 (some q21)) 1 (some q23)) 2 (some q25))))))) :: ((q16, .inl ((tq_la X).2.2 0, 21, .inl (fun _ => 0))) :: ((wn_X1 (tq_la X) q17 u18 ++ ((wn_X1 (tq_la X) q19 u20 ++ ((wn_X3 (tq_la X) q21 u22 ++ ((wn_X3 (tq_la X) q23 u24 ++ ((wn_X3 (tq_la X) q25 u26 ++ []))))))))))))))))))))))))))) rfl ?_
  refine gn_iinc (pc := 147) (j := 0) (v := 3) C dX6_init_147 [(1, .int 3), (0, .ref h)] rfl (by decide) (by decide) rfl ?_
  refine gn_goto (pc := 150) C dX6_init_150 129 (by decide) ?_
  refine gn_iload_n (pc := 129) C dX6_init_129 0 rfl rfl ?_
  refine gn_iconst (pc := 130) (v := 4) C dX6_init_130 (by decide) ?_
  refine gn_ic_ge (pc := 131) C dX6_init_131 153 (by decide) (fun c9 => absurd c9 (by decide)) (fun c9 => ?_)
  refine gn_aload_n (pc := 134) C dX6_init_134 1 rfl rfl ?_
  refine gn_get (pc := 135) C dX6_init_135 rfl itX6 8 (by decide) (tq_mem (tb_2 (List.mem_of_getElem? (i := 1) rfl)) rfl) rfl ?_
  refine gn_iload_n (pc := 138) C dX6_init_138 0 rfl rfl ?_
  refine gn_new (pc := 139) (ci := 3) C dX6_init_139 (tq_mem (tb_1 (List.mem_of_getElem? (i := 209) rfl)) rfl) (tq_mem (tb_1 (List.mem_of_getElem? (i := 211) rfl)) rfl) (tq_mem (tb_1 (List.mem_of_getElem? (i := 7) rfl)) rfl) itX3 tyX3 tyX3_ok rfl [.null, .int 0, .int 0, .int 0] df_X3 (by rw [hQ]; decide) (by rw [hQ]; decide) (fun q27 => ?_)
  refine gn_dup (pc := 142) C dX6_init_142 rfl ?_
  refine gn_initN (pc := 143) C (ok_X3_init) (tq_Nn C ("TearsQueue", 65, "TearsQueue$Sheet") (List.mem_of_getElem? (i := 2) rfl)) (tq_mem (tb_1 (List.mem_of_getElem? (i := 7) rfl)) rfl) (tq_mem (tb_1 (List.mem_of_getElem? (i := 213) rfl)) rfl) (tq_mem (tb_1 (List.mem_of_getElem? (i := 214) rfl)) rfl) (by decide +kernel) rfl (by decide) rfl (by rw [hQ]; decide) (by rw [hQ]; decide) dX6_init_143 (fun u28 => ?_)
  refine gn_aast (pc := 146) C dX6_init_146 117 137 rfl rfl rfl rfl (vp_in_nI (n := 3) (by decide) (by decide)) ((h, .inr (6, [.ref q1, .ref q3, .ref q5, .ref q7, .ref q9, .ref q11, .ref q13, .ref q14, .ref q15, .ref q16, .int 0])) :: ((wn_X1 (tq_la X) q1 u2 ++ ((wn_X1 (tq_la X) q3 u4 ++ ((wn_X5 (tq_la X) q5 u6 ++ ((wn_X4 (tq_la X) q7 u8 ++ ((wn_X2 (tq_la X) q9 u10 ++ ((wn_X0 (tq_la X) q11 u12 ++ ((q13, .inl ((tq_la X).2.2 4, 2, .inr (.inr (.inr (.inr (va_up (va_up (fun _ => none) 0 (some q17)) 1 (some q19))))))) :: ((q14, .inl ((tq_la X).2.2 2, 2, .inl (fun _ => 0))) :: ((q15, .inl ((tq_la X).2.2 5, 4, .inr (.inr (.inr (.inr (va_up (va_up (va_up (va_up (fun _ => none) 0 (some q21)) 1 (some q23)) 2 (some q25)) 3 (some q27))))))) :: ((q16, .inl ((tq_la X).2.2 0, 21, .inl (fun _ => 0))) :: ((wn_X1 (tq_la X) q17 u18 ++ ((wn_X1 (tq_la X) q19 u20 ++ ((wn_X3 (tq_la X) q21 u22 ++ ((wn_X3 (tq_la X) q23 u24 ++ ((wn_X3 (tq_la X) q25 u26 ++ ((wn_X3 (tq_la X) q27 u28 ++ []))))))))))))))))))))))))))))) rfl ?_
  refine gn_iinc (pc := 147) (j := 0) (v := 4) C dX6_init_147 [(1, .int 4), (0, .ref h)] rfl (by decide) (by decide) rfl ?_
  refine gn_goto (pc := 150) C dX6_init_150 129 (by decide) ?_
  refine gn_iload_n (pc := 129) C dX6_init_129 0 rfl rfl ?_
  refine gn_iconst (pc := 130) (v := 4) C dX6_init_130 (by decide) ?_
  refine gn_ic_ge (pc := 131) C dX6_init_131 153 (by decide) (fun c9 => ?_) (fun c9 => absurd (by decide) c9)
  exact hR (fun i => if i = 0 then q1 else if i < 6 then u2 (i - 1) else if i = 6 then q3 else if i < 12 then u4 (i - 7) else if i = 12 then q5 else if i < 20 then u6 (i - 13) else if i = 20 then q7 else if i < 23 then u8 (i - 21) else if i = 23 then q9 else if i < 57 then u10 (i - 24) else if i = 57 then q11 else if i < 114 then u12 (i - 58) else if i = 114 then q13 else if i = 115 then q14 else if i = 116 then q15 else if i = 117 then q16 else if i = 118 then q17 else if i < 124 then u18 (i - 119) else if i = 124 then q19 else if i < 130 then u20 (i - 125) else if i = 130 then q21 else if i < 132 then u22 (i - 131) else if i = 132 then q23 else if i < 134 then u24 (i - 133) else if i = 134 then q25 else if i < 136 then u26 (i - 135) else if i = 136 then q27 else if i < 138 then u28 (i - 137) else 0) _ _ dX6_init_153
end
section
def wn_X7 (a : tq_La) (h : Nat) (u : Nat → Nat) : va_W := ((h, .inr (7, [.ref (u 0), .ref (u 1), .int 0, .ref (u 2), .int 0, .int 0, .int 0, .ref (u 3), .int 0, .int 0, .int 0, .int 0, .int 0, .int 0, .int 0, .int 0, .ref (u 4), .ref (u 5), .int 0, .int 0, .int 0, .ref (u 6), .int 0, .ref (u 7), .ref (u 8), .ref (u 9), .ref (u 10), .ref (u 11), .int 0])) :: (((u 0), .inl (a.2.2 0, 168, .inl (fun _ => 0))) :: (((u 1), .inl (a.2.2 0, 4, .inl (upd (upd (upd (upd (fun _ => 0) 0 10) 1 5) 2 4) 3 20))) :: (((u 2), .inl (a.2.2 0, 28, .inl (fun _ => 0))) :: (((u 3), .inl (a.2.2 0, 160, .inl (fun _ => 0))) :: (((u 4), .inl (a.2.2 0, 8, .inl (upd (upd (upd (upd (upd (upd (upd (upd (fun _ => 0) 0 0) 1 5) 2 9) 3 13) 4 16) 5 20) 6 25) 7 29))) :: (((u 5), .inl (a.2.2 0, 29, .inl (upd (upd (upd (upd (upd (upd (upd (upd (upd (upd (upd (upd (upd (upd (upd (upd (upd (upd (upd (upd (upd (upd (upd (upd (upd (upd (upd (upd (upd (fun _ => 0) 0 112) 1 108) 2 97) 3 105) 4 110) 5 115) 6 111) 7 102) 8 116) 9 115) 10 104) 11 97) 12 109) 13 100) 14 114) 15 121) 16 114) 17 111) 18 111) 19 109) 20 116) 21 104) 22 105) 23 110) 24 107) 25 112) 26 108) 27 97) 28 110))) :: (((u 6), .inl (a.2.2 0, 12, .inl (fun _ => 0))) :: (((u 7), .inl (a.2.2 0, 21, .inl (fun _ => 0))) :: (((u 8), .inl (a.2.2 2, 2, .inl (fun _ => 0))) :: (((u 9), .inl (a.2.2 0, 4, .inl (upd (upd (upd (upd (fun _ => 0) 0 (-4)) 1 (-4)) 2 (-4)) 3 (-4)))) :: (((u 10), .inl (a.2.2 0, 4, .inl (fun _ => 0))) :: (((u 11), .inl (a.2.2 0, 160, .inl (fun _ => 0))) :: [])))))))))))))
set_option maxRecDepth 100000 in
set_option maxHeartbeats 8000000 in
theorem ok_X7_init : tq_MI yX7_init cX7_init 1 1 12 600 7 [.null, .null, .int 0, .null, .int 0, .int 0, .int 0, .null, .int 0, .int 0, .int 0, .int 0, .int 0, .int 0, .int 0, .int 0, .null, .null, .int 0, .int 0, .int 0, .null, .int 0, .null, .null, .null, .null, .null, .int 0] wn_X7 := by
  refine tq_mkC (by decide) rfl (by decide) ?_
  intro X h C hQ hR
  refine gn_aload_n (pc := 0) C dX7_init_0 0 rfl rfl ?_
  refine gn_objInit (pc := 1) C (by decide) (tq_mem (tb_4 (List.mem_of_getElem? (i := 69) rfl)) rfl) (tq_mem (tb_1 (List.mem_of_getElem? (i := 23) rfl)) rfl) (tq_mem (tb_1 (List.mem_of_getElem? (i := 24) rfl)) rfl) dX7_init_1 ?_
  refine gn_aload_n (pc := 4) C dX7_init_4 0 rfl rfl ?_
  refine gn_sipush (pc := 5) (v := 168) C dX7_init_5 (by decide) ?_
  refine gn_newa (pc := 8) C dX7_init_8 rfl (tq_mem (tb_1 (List.mem_of_getElem? (i := 96) rfl)) rfl) 0 rfl 168 (168, .inl (fun _ => 0)) (fun cA => rfl) (by decide) (by decide) (by decide) (by rw [hQ]; decide) (by rw [hQ]; decide) (fun q1 => ?_)
  refine gn_putF (pc := 10) C dX7_init_10 rfl itX7 tyX7 tyX7_ok nmX7 0 (by decide) (tq_mem (tb_4 (List.mem_of_getElem? (i := 70) rfl)) rfl) rfl rfl (ty := tyX7 0) (by decide +kernel) rfl rfl (Nat.le_of_ble_eq_true rfl) [.ref q1, .null, .int 0, .null, .int 0, .int 0, .int 0, .null, .int 0, .int 0, .int 0, .int 0, .int 0, .int 0, .int 0, .int 0, .null, .null, .int 0, .int 0, .int 0, .null, .int 0, .null, .null, .null, .null, .null, .int 0] rfl ?_
  refine gn_aload_n (pc := 13) C dX7_init_13 0 rfl rfl ?_
  refine gn_iconst (pc := 14) (v := 4) C dX7_init_14 (by decide) ?_
  refine gn_newa (pc := 15) C dX7_init_15 rfl (tq_mem (tb_1 (List.mem_of_getElem? (i := 96) rfl)) rfl) 0 rfl 4 (4, .inl (fun _ => 0)) (fun cA => rfl) (by decide) (by decide) (by decide) (by rw [hQ]; decide) (by rw [hQ]; decide) (fun q2 => ?_)
  refine gn_dup (pc := 17) C dX7_init_17 rfl ?_
  refine gn_iconst (pc := 18) (v := 0) C dX7_init_18 (by decide) ?_
  refine gn_bipush (pc := 19) (v := 10) C dX7_init_19 (by decide) ?_
  refine gn_iast (pc := 21) C dX7_init_21 2 rfl (vp_in_nI (n := 0) (by decide) (by decide)) ((h, .inr (7, [.ref q1, .null, .int 0, .null, .int 0, .int 0, .int 0, .null, .int 0, .int 0, .int 0, .int 0, .int 0, .int 0, .int 0, .int 0, .null, .null, .int 0, .int 0, .int 0, .null, .int 0, .null, .null, .null, .null, .null, .int 0])) :: ((q1, .inl ((tq_la X).2.2 0, 168, .inl (fun _ => 0))) :: ((q2, .inl ((tq_la X).2.2 0, 4, .inl (upd (fun _ => 0) 0 10))) :: []))) rfl ?_
  refine gn_dup (pc := 22) C dX7_init_22 rfl ?_
  refine gn_iconst (pc := 23) (v := 1) C dX7_init_23 (by decide) ?_
  refine gn_iconst (pc := 24) (v := 5) C dX7_init_24 (by decide) ?_
  refine gn_iast (pc := 25) C dX7_init_25 2 rfl (vp_in_nI (n := 1) (by decide) (by decide)) ((h, .inr (7, [.ref q1, .null, .int 0, .null, .int 0, .int 0, .int 0, .null, .int 0, .int 0, .int 0, .int 0, .int 0, .int 0, .int 0, .int 0, .null, .null, .int 0, .int 0, .int 0, .null, .int 0, .null, .null, .null, .null, .null, .int 0])) :: ((q1, .inl ((tq_la X).2.2 0, 168, .inl (fun _ => 0))) :: ((q2, .inl ((tq_la X).2.2 0, 4, .inl (upd (upd (fun _ => 0) 0 10) 1 5))) :: []))) rfl ?_
  refine gn_dup (pc := 26) C dX7_init_26 rfl ?_
  refine gn_iconst (pc := 27) (v := 2) C dX7_init_27 (by decide) ?_
  refine gn_iconst (pc := 28) (v := 4) C dX7_init_28 (by decide) ?_
  refine gn_iast (pc := 29) C dX7_init_29 2 rfl (vp_in_nI (n := 2) (by decide) (by decide)) ((h, .inr (7, [.ref q1, .null, .int 0, .null, .int 0, .int 0, .int 0, .null, .int 0, .int 0, .int 0, .int 0, .int 0, .int 0, .int 0, .int 0, .null, .null, .int 0, .int 0, .int 0, .null, .int 0, .null, .null, .null, .null, .null, .int 0])) :: ((q1, .inl ((tq_la X).2.2 0, 168, .inl (fun _ => 0))) :: ((q2, .inl ((tq_la X).2.2 0, 4, .inl (upd (upd (upd (fun _ => 0) 0 10) 1 5) 2 4))) :: []))) rfl ?_
  refine gn_dup (pc := 30) C dX7_init_30 rfl ?_
  refine gn_iconst (pc := 31) (v := 3) C dX7_init_31 (by decide) ?_
  refine gn_bipush (pc := 32) (v := 20) C dX7_init_32 (by decide) ?_
  refine gn_iast (pc := 34) C dX7_init_34 2 rfl (vp_in_nI (n := 3) (by decide) (by decide)) ((h, .inr (7, [.ref q1, .null, .int 0, .null, .int 0, .int 0, .int 0, .null, .int 0, .int 0, .int 0, .int 0, .int 0, .int 0, .int 0, .int 0, .null, .null, .int 0, .int 0, .int 0, .null, .int 0, .null, .null, .null, .null, .null, .int 0])) :: ((q1, .inl ((tq_la X).2.2 0, 168, .inl (fun _ => 0))) :: ((q2, .inl ((tq_la X).2.2 0, 4, .inl (upd (upd (upd (upd (fun _ => 0) 0 10) 1 5) 2 4) 3 20))) :: []))) rfl ?_
  refine gn_putF (pc := 35) C dX7_init_35 rfl itX7 tyX7 tyX7_ok nmX7 1 (by decide) (tq_mem (tb_4 (List.mem_of_getElem? (i := 71) rfl)) rfl) rfl rfl (ty := tyX7 1) (by decide +kernel) rfl rfl (Nat.le_of_ble_eq_true rfl) [.ref q1, .ref q2, .int 0, .null, .int 0, .int 0, .int 0, .null, .int 0, .int 0, .int 0, .int 0, .int 0, .int 0, .int 0, .int 0, .null, .null, .int 0, .int 0, .int 0, .null, .int 0, .null, .null, .null, .null, .null, .int 0] rfl ?_
  refine gn_aload_n (pc := 38) C dX7_init_38 0 rfl rfl ?_
  refine gn_bipush (pc := 39) (v := 28) C dX7_init_39 (by decide) ?_
  refine gn_newa (pc := 41) C dX7_init_41 rfl (tq_mem (tb_1 (List.mem_of_getElem? (i := 96) rfl)) rfl) 0 rfl 28 (28, .inl (fun _ => 0)) (fun cA => rfl) (by decide) (by decide) (by decide) (by rw [hQ]; decide) (by rw [hQ]; decide) (fun q3 => ?_)
  refine gn_putF (pc := 43) C dX7_init_43 rfl itX7 tyX7 tyX7_ok nmX7 3 (by decide) (tq_mem (tb_4 (List.mem_of_getElem? (i := 73) rfl)) rfl) rfl rfl (ty := tyX7 3) (by decide +kernel) rfl rfl (Nat.le_of_ble_eq_true rfl) [.ref q1, .ref q2, .int 0, .ref q3, .int 0, .int 0, .int 0, .null, .int 0, .int 0, .int 0, .int 0, .int 0, .int 0, .int 0, .int 0, .null, .null, .int 0, .int 0, .int 0, .null, .int 0, .null, .null, .null, .null, .null, .int 0] rfl ?_
  refine gn_aload_n (pc := 46) C dX7_init_46 0 rfl rfl ?_
  refine gn_sipush (pc := 47) (v := 160) C dX7_init_47 (by decide) ?_
  refine gn_newa (pc := 50) C dX7_init_50 rfl (tq_mem (tb_1 (List.mem_of_getElem? (i := 96) rfl)) rfl) 0 rfl 160 (160, .inl (fun _ => 0)) (fun cA => rfl) (by decide) (by decide) (by decide) (by rw [hQ]; decide) (by rw [hQ]; decide) (fun q4 => ?_)
  refine gn_putF (pc := 52) C dX7_init_52 rfl itX7 tyX7 tyX7_ok nmX7 7 (by decide) (tq_mem (tb_4 (List.mem_of_getElem? (i := 77) rfl)) rfl) rfl rfl (ty := tyX7 7) (by decide +kernel) rfl rfl (Nat.le_of_ble_eq_true rfl) [.ref q1, .ref q2, .int 0, .ref q3, .int 0, .int 0, .int 0, .ref q4, .int 0, .int 0, .int 0, .int 0, .int 0, .int 0, .int 0, .int 0, .null, .null, .int 0, .int 0, .int 0, .null, .int 0, .null, .null, .null, .null, .null, .int 0] rfl ?_
  refine gn_aload_n (pc := 55) C dX7_init_55 0 rfl rfl ?_
  refine gn_bipush (pc := 56) (v := 8) C dX7_init_56 (by decide) ?_
  refine gn_newa (pc := 58) C dX7_init_58 rfl (tq_mem (tb_1 (List.mem_of_getElem? (i := 96) rfl)) rfl) 0 rfl 8 (8, .inl (fun _ => 0)) (fun cA => rfl) (by decide) (by decide) (by decide) (by rw [hQ]; decide) (by rw [hQ]; decide) (fun q5 => ?_)
  refine gn_dup (pc := 60) C dX7_init_60 rfl ?_
  refine gn_iconst (pc := 61) (v := 0) C dX7_init_61 (by decide) ?_
  refine gn_iconst (pc := 62) (v := 0) C dX7_init_62 (by decide) ?_
  refine gn_iast (pc := 63) C dX7_init_63 5 rfl (vp_in_nI (n := 0) (by decide) (by decide)) ((h, .inr (7, [.ref q1, .ref q2, .int 0, .ref q3, .int 0, .int 0, .int 0, .ref q4, .int 0, .int 0, .int 0, .int 0, .int 0, .int 0, .int 0, .int 0, .null, .null, .int 0, .int 0, .int 0, .null, .int 0, .null, .null, .null, .null, .null, .int 0])) :: ((q1, .inl ((tq_la X).2.2 0, 168, .inl (fun _ => 0))) :: ((q2, .inl ((tq_la X).2.2 0, 4, .inl (upd (upd (upd (upd (fun _ => 0) 0 10) 1 5) 2 4) 3 20))) :: ((q3, .inl ((tq_la X).2.2 0, 28, .inl (fun _ => 0))) :: ((q4, .inl ((tq_la X).2.2 0, 160, .inl (fun _ => 0))) :: ((q5, .inl ((tq_la X).2.2 0, 8, .inl (upd (fun _ => 0) 0 0))) :: [])))))) rfl ?_
  refine gn_dup (pc := 64) C dX7_init_64 rfl ?_
  refine gn_iconst (pc := 65) (v := 1) C dX7_init_65 (by decide) ?_
  refine gn_iconst (pc := 66) (v := 5) C dX7_init_66 (by decide) ?_
  refine gn_iast (pc := 67) C dX7_init_67 5 rfl (vp_in_nI (n := 1) (by decide) (by decide)) ((h, .inr (7, [.ref q1, .ref q2, .int 0, .ref q3, .int 0, .int 0, .int 0, .ref q4, .int 0, .int 0, .int 0, .int 0, .int 0, .int 0, .int 0, .int 0, .null, .null, .int 0, .int 0, .int 0, .null, .int 0, .null, .null, .null, .null, .null, .int 0])) :: ((q1, .inl ((tq_la X).2.2 0, 168, .inl (fun _ => 0))) :: ((q2, .inl ((tq_la X).2.2 0, 4, .inl (upd (upd (upd (upd (fun _ => 0) 0 10) 1 5) 2 4) 3 20))) :: ((q3, .inl ((tq_la X).2.2 0, 28, .inl (fun _ => 0))) :: ((q4, .inl ((tq_la X).2.2 0, 160, .inl (fun _ => 0))) :: ((q5, .inl ((tq_la X).2.2 0, 8, .inl (upd (upd (fun _ => 0) 0 0) 1 5))) :: [])))))) rfl ?_
  refine gn_dup (pc := 68) C dX7_init_68 rfl ?_
  refine gn_iconst (pc := 69) (v := 2) C dX7_init_69 (by decide) ?_
  refine gn_bipush (pc := 70) (v := 9) C dX7_init_70 (by decide) ?_
  refine gn_iast (pc := 72) C dX7_init_72 5 rfl (vp_in_nI (n := 2) (by decide) (by decide)) ((h, .inr (7, [.ref q1, .ref q2, .int 0, .ref q3, .int 0, .int 0, .int 0, .ref q4, .int 0, .int 0, .int 0, .int 0, .int 0, .int 0, .int 0, .int 0, .null, .null, .int 0, .int 0, .int 0, .null, .int 0, .null, .null, .null, .null, .null, .int 0])) :: ((q1, .inl ((tq_la X).2.2 0, 168, .inl (fun _ => 0))) :: ((q2, .inl ((tq_la X).2.2 0, 4, .inl (upd (upd (upd (upd (fun _ => 0) 0 10) 1 5) 2 4) 3 20))) :: ((q3, .inl ((tq_la X).2.2 0, 28, .inl (fun _ => 0))) :: ((q4, .inl ((tq_la X).2.2 0, 160, .inl (fun _ => 0))) :: ((q5, .inl ((tq_la X).2.2 0, 8, .inl (upd (upd (upd (fun _ => 0) 0 0) 1 5) 2 9))) :: [])))))) rfl ?_
  refine gn_dup (pc := 73) C dX7_init_73 rfl ?_
  refine gn_iconst (pc := 74) (v := 3) C dX7_init_74 (by decide) ?_
  refine gn_bipush (pc := 75) (v := 13) C dX7_init_75 (by decide) ?_
  refine gn_iast (pc := 77) C dX7_init_77 5 rfl (vp_in_nI (n := 3) (by decide) (by decide)) ((h, .inr (7, [.ref q1, .ref q2, .int 0, .ref q3, .int 0, .int 0, .int 0, .ref q4, .int 0, .int 0, .int 0, .int 0, .int 0, .int 0, .int 0, .int 0, .null, .null, .int 0, .int 0, .int 0, .null, .int 0, .null, .null, .null, .null, .null, .int 0])) :: ((q1, .inl ((tq_la X).2.2 0, 168, .inl (fun _ => 0))) :: ((q2, .inl ((tq_la X).2.2 0, 4, .inl (upd (upd (upd (upd (fun _ => 0) 0 10) 1 5) 2 4) 3 20))) :: ((q3, .inl ((tq_la X).2.2 0, 28, .inl (fun _ => 0))) :: ((q4, .inl ((tq_la X).2.2 0, 160, .inl (fun _ => 0))) :: ((q5, .inl ((tq_la X).2.2 0, 8, .inl (upd (upd (upd (upd (fun _ => 0) 0 0) 1 5) 2 9) 3 13))) :: [])))))) rfl ?_
  refine gn_dup (pc := 78) C dX7_init_78 rfl ?_
  refine gn_iconst (pc := 79) (v := 4) C dX7_init_79 (by decide) ?_
  refine gn_bipush (pc := 80) (v := 16) C dX7_init_80 (by decide) ?_
  refine gn_iast (pc := 82) C dX7_init_82 5 rfl (vp_in_nI (n := 4) (by decide) (by decide)) ((h, .inr (7, [.ref q1, .ref q2, .int 0, .ref q3, .int 0, .int 0, .int 0, .ref q4, .int 0, .int 0, .int 0, .int 0, .int 0, .int 0, .int 0, .int 0, .null, .null, .int 0, .int 0, .int 0, .null, .int 0, .null, .null, .null, .null, .null, .int 0])) :: ((q1, .inl ((tq_la X).2.2 0, 168, .inl (fun _ => 0))) :: ((q2, .inl ((tq_la X).2.2 0, 4, .inl (upd (upd (upd (upd (fun _ => 0) 0 10) 1 5) 2 4) 3 20))) :: ((q3, .inl ((tq_la X).2.2 0, 28, .inl (fun _ => 0))) :: ((q4, .inl ((tq_la X).2.2 0, 160, .inl (fun _ => 0))) :: ((q5, .inl ((tq_la X).2.2 0, 8, .inl (upd (upd (upd (upd (upd (fun _ => 0) 0 0) 1 5) 2 9) 3 13) 4 16))) :: [])))))) rfl ?_
  refine gn_dup (pc := 83) C dX7_init_83 rfl ?_
  refine gn_iconst (pc := 84) (v := 5) C dX7_init_84 (by decide) ?_
  refine gn_bipush (pc := 85) (v := 20) C dX7_init_85 (by decide) ?_
  refine gn_iast (pc := 87) C dX7_init_87 5 rfl (vp_in_nI (n := 5) (by decide) (by decide)) ((h, .inr (7, [.ref q1, .ref q2, .int 0, .ref q3, .int 0, .int 0, .int 0, .ref q4, .int 0, .int 0, .int 0, .int 0, .int 0, .int 0, .int 0, .int 0, .null, .null, .int 0, .int 0, .int 0, .null, .int 0, .null, .null, .null, .null, .null, .int 0])) :: ((q1, .inl ((tq_la X).2.2 0, 168, .inl (fun _ => 0))) :: ((q2, .inl ((tq_la X).2.2 0, 4, .inl (upd (upd (upd (upd (fun _ => 0) 0 10) 1 5) 2 4) 3 20))) :: ((q3, .inl ((tq_la X).2.2 0, 28, .inl (fun _ => 0))) :: ((q4, .inl ((tq_la X).2.2 0, 160, .inl (fun _ => 0))) :: ((q5, .inl ((tq_la X).2.2 0, 8, .inl (upd (upd (upd (upd (upd (upd (fun _ => 0) 0 0) 1 5) 2 9) 3 13) 4 16) 5 20))) :: [])))))) rfl ?_
  refine gn_dup (pc := 88) C dX7_init_88 rfl ?_
  refine gn_bipush (pc := 89) (v := 6) C dX7_init_89 (by decide) ?_
  refine gn_bipush (pc := 91) (v := 25) C dX7_init_91 (by decide) ?_
  refine gn_iast (pc := 93) C dX7_init_93 5 rfl (vp_in_nI (n := 6) (by decide) (by decide)) ((h, .inr (7, [.ref q1, .ref q2, .int 0, .ref q3, .int 0, .int 0, .int 0, .ref q4, .int 0, .int 0, .int 0, .int 0, .int 0, .int 0, .int 0, .int 0, .null, .null, .int 0, .int 0, .int 0, .null, .int 0, .null, .null, .null, .null, .null, .int 0])) :: ((q1, .inl ((tq_la X).2.2 0, 168, .inl (fun _ => 0))) :: ((q2, .inl ((tq_la X).2.2 0, 4, .inl (upd (upd (upd (upd (fun _ => 0) 0 10) 1 5) 2 4) 3 20))) :: ((q3, .inl ((tq_la X).2.2 0, 28, .inl (fun _ => 0))) :: ((q4, .inl ((tq_la X).2.2 0, 160, .inl (fun _ => 0))) :: ((q5, .inl ((tq_la X).2.2 0, 8, .inl (upd (upd (upd (upd (upd (upd (upd (fun _ => 0) 0 0) 1 5) 2 9) 3 13) 4 16) 5 20) 6 25))) :: [])))))) rfl ?_
  refine gn_dup (pc := 94) C dX7_init_94 rfl ?_
  refine gn_bipush (pc := 95) (v := 7) C dX7_init_95 (by decide) ?_
  refine gn_bipush (pc := 97) (v := 29) C dX7_init_97 (by decide) ?_
  refine gn_iast (pc := 99) C dX7_init_99 5 rfl (vp_in_nI (n := 7) (by decide) (by decide)) ((h, .inr (7, [.ref q1, .ref q2, .int 0, .ref q3, .int 0, .int 0, .int 0, .ref q4, .int 0, .int 0, .int 0, .int 0, .int 0, .int 0, .int 0, .int 0, .null, .null, .int 0, .int 0, .int 0, .null, .int 0, .null, .null, .null, .null, .null, .int 0])) :: ((q1, .inl ((tq_la X).2.2 0, 168, .inl (fun _ => 0))) :: ((q2, .inl ((tq_la X).2.2 0, 4, .inl (upd (upd (upd (upd (fun _ => 0) 0 10) 1 5) 2 4) 3 20))) :: ((q3, .inl ((tq_la X).2.2 0, 28, .inl (fun _ => 0))) :: ((q4, .inl ((tq_la X).2.2 0, 160, .inl (fun _ => 0))) :: ((q5, .inl ((tq_la X).2.2 0, 8, .inl (upd (upd (upd (upd (upd (upd (upd (upd (fun _ => 0) 0 0) 1 5) 2 9) 3 13) 4 16) 5 20) 6 25) 7 29))) :: [])))))) rfl ?_
  refine gn_putF (pc := 100) C dX7_init_100 rfl itX7 tyX7 tyX7_ok nmX7 16 (by decide) (tq_mem (tb_4 (List.mem_of_getElem? (i := 86) rfl)) rfl) rfl rfl (ty := tyX7 16) (by decide +kernel) rfl rfl (Nat.le_of_ble_eq_true rfl) [.ref q1, .ref q2, .int 0, .ref q3, .int 0, .int 0, .int 0, .ref q4, .int 0, .int 0, .int 0, .int 0, .int 0, .int 0, .int 0, .int 0, .ref q5, .null, .int 0, .int 0, .int 0, .null, .int 0, .null, .null, .null, .null, .null, .int 0] rfl ?_
  refine gn_aload_n (pc := 103) C dX7_init_103 0 rfl rfl ?_
  refine gn_bipush (pc := 104) (v := 29) C dX7_init_104 (by decide) ?_
  refine gn_newa (pc := 106) C dX7_init_106 rfl (tq_mem (tb_1 (List.mem_of_getElem? (i := 96) rfl)) rfl) 0 rfl 29 (29, .inl (fun _ => 0)) (fun cA => rfl) (by decide) (by decide) (by decide) (by rw [hQ]; decide) (by rw [hQ]; decide) (fun q6 => ?_)
  refine gn_dup (pc := 108) C dX7_init_108 rfl ?_
  refine gn_iconst (pc := 109) (v := 0) C dX7_init_109 (by decide) ?_
  refine gn_bipush (pc := 110) (v := 112) C dX7_init_110 (by decide) ?_
  refine gn_iast (pc := 112) C dX7_init_112 6 rfl (vp_in_nI (n := 0) (by decide) (by decide)) ((h, .inr (7, [.ref q1, .ref q2, .int 0, .ref q3, .int 0, .int 0, .int 0, .ref q4, .int 0, .int 0, .int 0, .int 0, .int 0, .int 0, .int 0, .int 0, .ref q5, .null, .int 0, .int 0, .int 0, .null, .int 0, .null, .null, .null, .null, .null, .int 0])) :: ((q1, .inl ((tq_la X).2.2 0, 168, .inl (fun _ => 0))) :: ((q2, .inl ((tq_la X).2.2 0, 4, .inl (upd (upd (upd (upd (fun _ => 0) 0 10) 1 5) 2 4) 3 20))) :: ((q3, .inl ((tq_la X).2.2 0, 28, .inl (fun _ => 0))) :: ((q4, .inl ((tq_la X).2.2 0, 160, .inl (fun _ => 0))) :: ((q5, .inl ((tq_la X).2.2 0, 8, .inl (upd (upd (upd (upd (upd (upd (upd (upd (fun _ => 0) 0 0) 1 5) 2 9) 3 13) 4 16) 5 20) 6 25) 7 29))) :: ((q6, .inl ((tq_la X).2.2 0, 29, .inl (upd (fun _ => 0) 0 112))) :: []))))))) rfl ?_
  refine gn_dup (pc := 113) C dX7_init_113 rfl ?_
  refine gn_iconst (pc := 114) (v := 1) C dX7_init_114 (by decide) ?_
  refine gn_bipush (pc := 115) (v := 108) C dX7_init_115 (by decide) ?_
  refine gn_iast (pc := 117) C dX7_init_117 6 rfl (vp_in_nI (n := 1) (by decide) (by decide)) ((h, .inr (7, [.ref q1, .ref q2, .int 0, .ref q3, .int 0, .int 0, .int 0, .ref q4, .int 0, .int 0, .int 0, .int 0, .int 0, .int 0, .int 0, .int 0, .ref q5, .null, .int 0, .int 0, .int 0, .null, .int 0, .null, .null, .null, .null, .null, .int 0])) :: ((q1, .inl ((tq_la X).2.2 0, 168, .inl (fun _ => 0))) :: ((q2, .inl ((tq_la X).2.2 0, 4, .inl (upd (upd (upd (upd (fun _ => 0) 0 10) 1 5) 2 4) 3 20))) :: ((q3, .inl ((tq_la X).2.2 0, 28, .inl (fun _ => 0))) :: ((q4, .inl ((tq_la X).2.2 0, 160, .inl (fun _ => 0))) :: ((q5, .inl ((tq_la X).2.2 0, 8, .inl (upd (upd (upd (upd (upd (upd (upd (upd (fun _ => 0) 0 0) 1 5) 2 9) 3 13) 4 16) 5 20) 6 25) 7 29))) :: ((q6, .inl ((tq_la X).2.2 0, 29, .inl (upd (upd (fun _ => 0) 0 112) 1 108))) :: []))))))) rfl ?_
  refine gn_dup (pc := 118) C dX7_init_118 rfl ?_
  refine gn_iconst (pc := 119) (v := 2) C dX7_init_119 (by decide) ?_
  refine gn_bipush (pc := 120) (v := 97) C dX7_init_120 (by decide) ?_
  refine gn_iast (pc := 122) C dX7_init_122 6 rfl (vp_in_nI (n := 2) (by decide) (by decide)) ((h, .inr (7, [.ref q1, .ref q2, .int 0, .ref q3, .int 0, .int 0, .int 0, .ref q4, .int 0, .int 0, .int 0, .int 0, .int 0, .int 0, .int 0, .int 0, .ref q5, .null, .int 0, .int 0, .int 0, .null, .int 0, .null, .null, .null, .null, .null, .int 0])) :: ((q1, .inl ((tq_la X).2.2 0, 168, .inl (fun _ => 0))) :: ((q2, .inl ((tq_la X).2.2 0, 4, .inl (upd (upd (upd (upd (fun _ => 0) 0 10) 1 5) 2 4) 3 20))) :: ((q3, .inl ((tq_la X).2.2 0, 28, .inl (fun _ => 0))) :: ((q4, .inl ((tq_la X).2.2 0, 160, .inl (fun _ => 0))) :: ((q5, .inl ((tq_la X).2.2 0, 8, .inl (upd (upd (upd (upd (upd (upd (upd (upd (fun _ => 0) 0 0) 1 5) 2 9) 3 13) 4 16) 5 20) 6 25) 7 29))) :: ((q6, .inl ((tq_la X).2.2 0, 29, .inl (upd (upd (upd (fun _ => 0) 0 112) 1 108) 2 97))) :: []))))))) rfl ?_
  refine gn_dup (pc := 123) C dX7_init_123 rfl ?_
  refine gn_iconst (pc := 124) (v := 3) C dX7_init_124 (by decide) ?_
  refine gn_bipush (pc := 125) (v := 105) C dX7_init_125 (by decide) ?_
  refine gn_iast (pc := 127) C dX7_init_127 6 rfl (vp_in_nI (n := 3) (by decide) (by decide)) ((h, .inr (7, [.ref q1, .ref q2, .int 0, .ref q3, .int 0, .int 0, .int 0, .ref q4, .int 0, .int 0, .int 0, .int 0, .int 0, .int 0, .int 0, .int 0, .ref q5, .null, .int 0, .int 0, .int 0, .null, .int 0, .null, .null, .null, .null, .null, .int 0])) :: ((q1, .inl ((tq_la X).2.2 0, 168, .inl (fun _ => 0))) :: ((q2, .inl ((tq_la X).2.2 0, 4, .inl (upd (upd (upd (upd (fun _ => 0) 0 10) 1 5) 2 4) 3 20))) :: ((q3, .inl ((tq_la X).2.2 0, 28, .inl (fun _ => 0))) :: ((q4, .inl ((tq_la X).2.2 0, 160, .inl (fun _ => 0))) :: ((q5, .inl ((tq_la X).2.2 0, 8, .inl (upd (upd (upd (upd (upd (upd (upd (upd (fun _ => 0) 0 0) 1 5) 2 9) 3 13) 4 16) 5 20) 6 25) 7 29))) :: ((q6, .inl ((tq_la X).2.2 0, 29, .inl (upd (upd (upd (upd (fun _ => 0) 0 112) 1 108) 2 97) 3 105))) :: []))))))) rfl ?_
  refine gn_dup (pc := 128) C dX7_init_128 rfl ?_
  refine gn_iconst (pc := 129) (v := 4) C dX7_init_129 (by decide) ?_
  refine gn_bipush (pc := 130) (v := 110) C dX7_init_130 (by decide) ?_
  refine gn_iast (pc := 132) C dX7_init_132 6 rfl (vp_in_nI (n := 4) (by decide) (by decide)) ((h, .inr (7, [.ref q1, .ref q2, .int 0, .ref q3, .int 0, .int 0, .int 0, .ref q4, .int 0, .int 0, .int 0, .int 0, .int 0, .int 0, .int 0, .int 0, .ref q5, .null, .int 0, .int 0, .int 0, .null, .int 0, .null, .null, .null, .null, .null, .int 0])) :: ((q1, .inl ((tq_la X).2.2 0, 168, .inl (fun _ => 0))) :: ((q2, .inl ((tq_la X).2.2 0, 4, .inl (upd (upd (upd (upd (fun _ => 0) 0 10) 1 5) 2 4) 3 20))) :: ((q3, .inl ((tq_la X).2.2 0, 28, .inl (fun _ => 0))) :: ((q4, .inl ((tq_la X).2.2 0, 160, .inl (fun _ => 0))) :: ((q5, .inl ((tq_la X).2.2 0, 8, .inl (upd (upd (upd (upd (upd (upd (upd (upd (fun _ => 0) 0 0) 1 5) 2 9) 3 13) 4 16) 5 20) 6 25) 7 29))) :: ((q6, .inl ((tq_la X).2.2 0, 29, .inl (upd (upd (upd (upd (upd (fun _ => 0) 0 112) 1 108) 2 97) 3 105) 4 110))) :: []))))))) rfl ?_
  refine gn_dup (pc := 133) C dX7_init_133 rfl ?_
  refine gn_iconst (pc := 134) (v := 5) C dX7_init_134 (by decide) ?_
  refine gn_bipush (pc := 135) (v := 115) C dX7_init_135 (by decide) ?_
  refine gn_iast (pc := 137) C dX7_init_137 6 rfl (vp_in_nI (n := 5) (by decide) (by decide)) ((h, .inr (7, [.ref q1, .ref q2, .int 0, .ref q3, .int 0, .int 0, .int 0, .ref q4, .int 0, .int 0, .int 0, .int 0, .int 0, .int 0, .int 0, .int 0, .ref q5, .null, .int 0, .int 0, .int 0, .null, .int 0, .null, .null, .null, .null, .null, .int 0])) :: ((q1, .inl ((tq_la X).2.2 0, 168, .inl (fun _ => 0))) :: ((q2, .inl ((tq_la X).2.2 0, 4, .inl (upd (upd (upd (upd (fun _ => 0) 0 10) 1 5) 2 4) 3 20))) :: ((q3, .inl ((tq_la X).2.2 0, 28, .inl (fun _ => 0))) :: ((q4, .inl ((tq_la X).2.2 0, 160, .inl (fun _ => 0))) :: ((q5, .inl ((tq_la X).2.2 0, 8, .inl (upd (upd (upd (upd (upd (upd (upd (upd (fun _ => 0) 0 0) 1 5) 2 9) 3 13) 4 16) 5 20) 6 25) 7 29))) :: ((q6, .inl ((tq_la X).2.2 0, 29, .inl (upd (upd (upd (upd (upd (upd (fun _ => 0) 0 112) 1 108) 2 97) 3 105) 4 110) 5 115))) :: []))))))) rfl ?_
  refine gn_dup (pc := 138) C dX7_init_138 rfl ?_
  refine gn_bipush (pc := 139) (v := 6) C dX7_init_139 (by decide) ?_
  refine gn_bipush (pc := 141) (v := 111) C dX7_init_141 (by decide) ?_
  refine gn_iast (pc := 143) C dX7_init_143 6 rfl (vp_in_nI (n := 6) (by decide) (by decide)) ((h, .inr (7, [.ref q1, .ref q2, .int 0, .ref q3, .int 0, .int 0, .int 0, .ref q4, .int 0, .int 0, .int 0, .int 0, .int 0, .int 0, .int 0, .int 0, .ref q5, .null, .int 0, .int 0, .int 0, .null, .int 0, .null, .null, .null, .null, .null, .int 0])) :: ((q1, .inl ((tq_la X).2.2 0, 168, .inl (fun _ => 0))) :: ((q2, .inl ((tq_la X).2.2 0, 4, .inl (upd (upd (upd (upd (fun _ => 0) 0 10) 1 5) 2 4) 3 20))) :: ((q3, .inl ((tq_la X).2.2 0, 28, .inl (fun _ => 0))) :: ((q4, .inl ((tq_la X).2.2 0, 160, .inl (fun _ => 0))) :: ((q5, .inl ((tq_la X).2.2 0, 8, .inl (upd (upd (upd (upd (upd (upd (upd (upd (fun _ => 0) 0 0) 1 5) 2 9) 3 13) 4 16) 5 20) 6 25) 7 29))) :: ((q6, .inl ((tq_la X).2.2 0, 29, .inl (upd (upd (upd (upd (upd (upd (upd (fun _ => 0) 0 112) 1 108) 2 97) 3 105) 4 110) 5 115) 6 111))) :: []))))))) rfl ?_
  refine gn_dup (pc := 144) C dX7_init_144 rfl ?_
  refine gn_bipush (pc := 145) (v := 7) C dX7_init_145 (by decide) ?_
  refine gn_bipush (pc := 147) (v := 102) C dX7_init_147 (by decide) ?_
  refine gn_iast (pc := 149) C dX7_init_149 6 rfl (vp_in_nI (n := 7) (by decide) (by decide)) ((h, .inr (7, [.ref q1, .ref q2, .int 0, .ref q3, .int 0, .int 0, .int 0, .ref q4, .int 0, .int 0, .int 0, .int 0, .int 0, .int 0, .int 0, .int 0, .ref q5, .null, .int 0, .int 0, .int 0, .null, .int 0, .null, .null, .null, .null, .null, .int 0])) :: ((q1, .inl ((tq_la X).2.2 0, 168, .inl (fun _ => 0))) :: ((q2, .inl ((tq_la X).2.2 0, 4, .inl (upd (upd (upd (upd (fun _ => 0) 0 10) 1 5) 2 4) 3 20))) :: ((q3, .inl ((tq_la X).2.2 0, 28, .inl (fun _ => 0))) :: ((q4, .inl ((tq_la X).2.2 0, 160, .inl (fun _ => 0))) :: ((q5, .inl ((tq_la X).2.2 0, 8, .inl (upd (upd (upd (upd (upd (upd (upd (upd (fun _ => 0) 0 0) 1 5) 2 9) 3 13) 4 16) 5 20) 6 25) 7 29))) :: ((q6, .inl ((tq_la X).2.2 0, 29, .inl (upd (upd (upd (upd (upd (upd (upd (upd (fun _ => 0) 0 112) 1 108) 2 97) 3 105) 4 110) 5 115) 6 111) 7 102))) :: []))))))) rfl ?_
  refine gn_dup (pc := 150) C dX7_init_150 rfl ?_
  refine gn_bipush (pc := 151) (v := 8) C dX7_init_151 (by decide) ?_
  refine gn_bipush (pc := 153) (v := 116) C dX7_init_153 (by decide) ?_
  refine gn_iast (pc := 155) C dX7_init_155 6 rfl (vp_in_nI (n := 8) (by decide) (by decide)) ((h, .inr (7, [.ref q1, .ref q2, .int 0, .ref q3, .int 0, .int 0, .int 0, .ref q4, .int 0, .int 0, .int 0, .int 0, .int 0, .int 0, .int 0, .int 0, .ref q5, .null, .int 0, .int 0, .int 0, .null, .int 0, .null, .null, .null, .null, .null, .int 0])) :: ((q1, .inl ((tq_la X).2.2 0, 168, .inl (fun _ => 0))) :: ((q2, .inl ((tq_la X).2.2 0, 4, .inl (upd (upd (upd (upd (fun _ => 0) 0 10) 1 5) 2 4) 3 20))) :: ((q3, .inl ((tq_la X).2.2 0, 28, .inl (fun _ => 0))) :: ((q4, .inl ((tq_la X).2.2 0, 160, .inl (fun _ => 0))) :: ((q5, .inl ((tq_la X).2.2 0, 8, .inl (upd (upd (upd (upd (upd (upd (upd (upd (fun _ => 0) 0 0) 1 5) 2 9) 3 13) 4 16) 5 20) 6 25) 7 29))) :: ((q6, .inl ((tq_la X).2.2 0, 29, .inl (upd (upd (upd (upd (upd (upd (upd (upd (upd (fun _ => 0) 0 112) 1 108) 2 97) 3 105) 4 110) 5 115) 6 111) 7 102) 8 116))) :: []))))))) rfl ?_
  refine gn_dup (pc := 156) C dX7_init_156 rfl ?_
  refine gn_bipush (pc := 157) (v := 9) C dX7_init_157 (by decide) ?_
  refine gn_bipush (pc := 159) (v := 115) C dX7_init_159 (by decide) ?_
  refine gn_iast (pc := 161) C dX7_init_161 6 rfl (vp_in_nI (n := 9) (by decide) (by decide)) ((h, .inr (7, [.ref q1, .ref q2, .int 0, .ref q3, .int 0, .int 0, .int 0, .ref q4, .int 0, .int 0, .int 0, .int 0, .int 0, .int 0, .int 0, .int 0, .ref q5, .null, .int 0, .int 0, .int 0, .null, .int 0, .null, .null, .null, .null, .null, .int 0])) :: ((q1, .inl ((tq_la X).2.2 0, 168, .inl (fun _ => 0))) :: ((q2, .inl ((tq_la X).2.2 0, 4, .inl (upd (upd (upd (upd (fun _ => 0) 0 10) 1 5) 2 4) 3 20))) :: ((q3, .inl ((tq_la X).2.2 0, 28, .inl (fun _ => 0))) :: ((q4, .inl ((tq_la X).2.2 0, 160, .inl (fun _ => 0))) :: ((q5, .inl ((tq_la X).2.2 0, 8, .inl (upd (upd (upd (upd (upd (upd (upd (upd (fun _ => 0) 0 0) 1 5) 2 9) 3 13) 4 16) 5 20) 6 25) 7 29))) :: ((q6, .inl ((tq_la X).2.2 0, 29, .inl (upd (upd (upd (upd (upd (upd (upd (upd (upd (upd (fun _ => 0) 0 112) 1 108) 2 97) 3 105) 4 110) 5 115) 6 111) 7 102) 8 116) 9 115))) :: []))))))) rfl ?_
  refine gn_dup (pc := 162) C dX7_init_162 rfl ?_
  refine gn_bipush (pc := 163) (v := 10) C dX7_init_163 (by decide) ?_
  refine gn_bipush (pc := 165) (v := 104) C dX7_init_165 (by decide) ?_
  refine gn_iast (pc := 167) C dX7_init_167 6 rfl (vp_in_nI (n := 10) (by decide) (by decide)) ((h, .inr (7, [.ref q1, .ref q2, .int 0, .ref q3, .int 0, .int 0, .int 0, .ref q4, .int 0, .int 0, .int 0, .int 0, .int 0, .int 0, .int 0, .int 0, .ref q5, .null, .int 0, .int 0, .int 0, .null, .int 0, .null, .null, .null, .null, .null, .int 0])) :: ((q1, .inl ((tq_la X).2.2 0, 168, .inl (fun _ => 0))) :: ((q2, .inl ((tq_la X).2.2 0, 4, .inl (upd (upd (upd (upd (fun _ => 0) 0 10) 1 5) 2 4) 3 20))) :: ((q3, .inl ((tq_la X).2.2 0, 28, .inl (fun _ => 0))) :: ((q4, .inl ((tq_la X).2.2 0, 160, .inl (fun _ => 0))) :: ((q5, .inl ((tq_la X).2.2 0, 8, .inl (upd (upd (upd (upd (upd (upd (upd (upd (fun _ => 0) 0 0) 1 5) 2 9) 3 13) 4 16) 5 20) 6 25) 7 29))) :: ((q6, .inl ((tq_la X).2.2 0, 29, .inl (upd (upd (upd (upd (upd (upd (upd (upd (upd (upd (upd (fun _ => 0) 0 112) 1 108) 2 97) 3 105) 4 110) 5 115) 6 111) 7 102) 8 116) 9 115) 10 104))) :: []))))))) rfl ?_
  refine gn_dup (pc := 168) C dX7_init_168 rfl ?_
  refine gn_bipush (pc := 169) (v := 11) C dX7_init_169 (by decide) ?_
  refine gn_bipush (pc := 171) (v := 97) C dX7_init_171 (by decide) ?_
  refine gn_iast (pc := 173) C dX7_init_173 6 rfl (vp_in_nI (n := 11) (by decide) (by decide)) ((h, .inr (7, [.ref q1, .ref q2, .int 0, .ref q3, .int 0, .int 0, .int 0, .ref q4, .int 0, .int 0, .int 0, .int 0, .int 0, .int 0, .int 0, .int 0, .ref q5, .null, .int 0, .int 0, .int 0, .null, .int 0, .null, .null, .null, .null, .null, .int 0])) :: ((q1, .inl ((tq_la X).2.2 0, 168, .inl (fun _ => 0))) :: ((q2, .inl ((tq_la X).2.2 0, 4, .inl (upd (upd (upd (upd (fun _ => 0) 0 10) 1 5) 2 4) 3 20))) :: ((q3, .inl ((tq_la X).2.2 0, 28, .inl (fun _ => 0))) :: ((q4, .inl ((tq_la X).2.2 0, 160, .inl (fun _ => 0))) :: ((q5, .inl ((tq_la X).2.2 0, 8, .inl (upd (upd (upd (upd (upd (upd (upd (upd (fun _ => 0) 0 0) 1 5) 2 9) 3 13) 4 16) 5 20) 6 25) 7 29))) :: ((q6, .inl ((tq_la X).2.2 0, 29, .inl (upd (upd (upd (upd (upd (upd (upd (upd (upd (upd (upd (upd (fun _ => 0) 0 112) 1 108) 2 97) 3 105) 4 110) 5 115) 6 111) 7 102) 8 116) 9 115) 10 104) 11 97))) :: []))))))) rfl ?_
  refine gn_dup (pc := 174) C dX7_init_174 rfl ?_
  refine gn_bipush (pc := 175) (v := 12) C dX7_init_175 (by decide) ?_
  refine gn_bipush (pc := 177) (v := 109) C dX7_init_177 (by decide) ?_
  refine gn_iast (pc := 179) C dX7_init_179 6 rfl (vp_in_nI (n := 12) (by decide) (by decide)) ((h, .inr (7, [.ref q1, .ref q2, .int 0, .ref q3, .int 0, .int 0, .int 0, .ref q4, .int 0, .int 0, .int 0, .int 0, .int 0, .int 0, .int 0, .int 0, .ref q5, .null, .int 0, .int 0, .int 0, .null, .int 0, .null, .null, .null, .null, .null, .int 0])) :: ((q1, .inl ((tq_la X).2.2 0, 168, .inl (fun _ => 0))) :: ((q2, .inl ((tq_la X).2.2 0, 4, .inl (upd (upd (upd (upd (fun _ => 0) 0 10) 1 5) 2 4) 3 20))) :: ((q3, .inl ((tq_la X).2.2 0, 28, .inl (fun _ => 0))) :: ((q4, .inl ((tq_la X).2.2 0, 160, .inl (fun _ => 0))) :: ((q5, .inl ((tq_la X).2.2 0, 8, .inl (upd (upd (upd (upd (upd (upd (upd (upd (fun _ => 0) 0 0) 1 5) 2 9) 3 13) 4 16) 5 20) 6 25) 7 29))) :: ((q6, .inl ((tq_la X).2.2 0, 29, .inl (upd (upd (upd (upd (upd (upd (upd (upd (upd (upd (upd (upd (upd (fun _ => 0) 0 112) 1 108) 2 97) 3 105) 4 110) 5 115) 6 111) 7 102) 8 116) 9 115) 10 104) 11 97) 12 109))) :: []))))))) rfl ?_
  refine gn_dup (pc := 180) C dX7_init_180 rfl ?_
  refine gn_bipush (pc := 181) (v := 13) C dX7_init_181 (by decide) ?_
  refine gn_bipush (pc := 183) (v := 100) C dX7_init_183 (by decide) ?_
  refine gn_iast (pc := 185) C dX7_init_185 6 rfl (vp_in_nI (n := 13) (by decide) (by decide)) ((h, .inr (7, [.ref q1, .ref q2, .int 0, .ref q3, .int 0, .int 0, .int 0, .ref q4, .int 0, .int 0, .int 0, .int 0, .int 0, .int 0, .int 0, .int 0, .ref q5, .null, .int 0, .int 0, .int 0, .null, .int 0, .null, .null, .null, .null, .null, .int 0])) :: ((q1, .inl ((tq_la X).2.2 0, 168, .inl (fun _ => 0))) :: ((q2, .inl ((tq_la X).2.2 0, 4, .inl (upd (upd (upd (upd (fun _ => 0) 0 10) 1 5) 2 4) 3 20))) :: ((q3, .inl ((tq_la X).2.2 0, 28, .inl (fun _ => 0))) :: ((q4, .inl ((tq_la X).2.2 0, 160, .inl (fun _ => 0))) :: ((q5, .inl ((tq_la X).2.2 0, 8, .inl (upd (upd (upd (upd (upd (upd (upd (upd (fun _ => 0) 0 0) 1 5) 2 9) 3 13) 4 16) 5 20) 6 25) 7 29))) :: ((q6, .inl ((tq_la X).2.2 0, 29, .inl (upd (upd (upd (upd (upd (upd (upd (upd (upd (upd (upd (upd (upd (upd (fun _ => 0) 0 112) 1 108) 2 97) 3 105) 4 110) 5 115) 6 111) 7 102) 8 116) 9 115) 10 104) 11 97) 12 109) 13 100))) :: []))))))) rfl ?_
  refine gn_dup (pc := 186) C dX7_init_186 rfl ?_
  refine gn_bipush (pc := 187) (v := 14) C dX7_init_187 (by decide) ?_
  refine gn_bipush (pc := 189) (v := 114) C dX7_init_189 (by decide) ?_
  refine gn_iast (pc := 191) C dX7_init_191 6 rfl (vp_in_nI (n := 14) (by decide) (by decide)) ((h, .inr (7, [.ref q1, .ref q2, .int 0, .ref q3, .int 0, .int 0, .int 0, .ref q4, .int 0, .int 0, .int 0, .int 0, .int 0, .int 0, .int 0, .int 0, .ref q5, .null, .int 0, .int 0, .int 0, .null, .int 0, .null, .null, .null, .null, .null, .int 0])) :: ((q1, .inl ((tq_la X).2.2 0, 168, .inl (fun _ => 0))) :: ((q2, .inl ((tq_la X).2.2 0, 4, .inl (upd (upd (upd (upd (fun _ => 0) 0 10) 1 5) 2 4) 3 20))) :: ((q3, .inl ((tq_la X).2.2 0, 28, .inl (fun _ => 0))) :: ((q4, .inl ((tq_la X).2.2 0, 160, .inl (fun _ => 0))) :: ((q5, .inl ((tq_la X).2.2 0, 8, .inl (upd (upd (upd (upd (upd (upd (upd (upd (fun _ => 0) 0 0) 1 5) 2 9) 3 13) 4 16) 5 20) 6 25) 7 29))) :: ((q6, .inl ((tq_la X).2.2 0, 29, .inl (upd (upd (upd (upd (upd (upd (upd (upd (upd (upd (upd (upd (upd (upd (upd (fun _ => 0) 0 112) 1 108) 2 97) 3 105) 4 110) 5 115) 6 111) 7 102) 8 116) 9 115) 10 104) 11 97) 12 109) 13 100) 14 114))) :: []))))))) rfl ?_
  refine gn_dup (pc := 192) C dX7_init_192 rfl ?_
  refine gn_bipush (pc := 193) (v := 15) C dX7_init_193 (by decide) ?_
  refine gn_bipush (pc := 195) (v := 121) C dX7_init_195 (by decide) ?_
  refine gn_iast (pc := 197) C dX7_init_197 6 rfl (vp_in_nI (n := 15) (by decide) (by decide)) ((h, .inr (7, [.ref q1, .ref q2, .int 0, .ref q3, .int 0, .int 0, .int 0, .ref q4, .int 0, .int 0, .int 0, .int 0, .int 0, .int 0, .int 0, .int 0, .ref q5, .null, .int 0, .int 0, .int 0, .null, .int 0, .null, .null, .null, .null, .null, .int 0])) :: ((q1, .inl ((tq_la X).2.2 0, 168, .inl (fun _ => 0))) :: ((q2, .inl ((tq_la X).2.2 0, 4, .inl (upd (upd (upd (upd (fun _ => 0) 0 10) 1 5) 2 4) 3 20))) :: ((q3, .inl ((tq_la X).2.2 0, 28, .inl (fun _ => 0))) :: ((q4, .inl ((tq_la X).2.2 0, 160, .inl (fun _ => 0))) :: ((q5, .inl ((tq_la X).2.2 0, 8, .inl (upd (upd (upd (upd (upd (upd (upd (upd (fun _ => 0) 0 0) 1 5) 2 9) 3 13) 4 16) 5 20) 6 25) 7 29))) :: ((q6, .inl ((tq_la X).2.2 0, 29, .inl (upd (upd (upd (upd (upd (upd (upd (upd (upd (upd (upd (upd (upd (upd (upd (upd (fun _ => 0) 0 112) 1 108) 2 97) 3 105) 4 110) 5 115) 6 111) 7 102) 8 116) 9 115) 10 104) 11 97) 12 109) 13 100) 14 114) 15 121))) :: []))))))) rfl ?_
  refine gn_dup (pc := 198) C dX7_init_198 rfl ?_
  refine gn_bipush (pc := 199) (v := 16) C dX7_init_199 (by decide) ?_
  refine gn_bipush (pc := 201) (v := 114) C dX7_init_201 (by decide) ?_
  refine gn_iast (pc := 203) C dX7_init_203 6 rfl (vp_in_nI (n := 16) (by decide) (by decide)) ((h, .inr (7, [.ref q1, .ref q2, .int 0, .ref q3, .int 0, .int 0, .int 0, .ref q4, .int 0, .int 0, .int 0, .int 0, .int 0, .int 0, .int 0, .int 0, .ref q5, .null, .int 0, .int 0, .int 0, .null, .int 0, .null, .null, .null, .null, .null, .int 0])) :: ((q1, .inl ((tq_la X).2.2 0, 168, .inl (fun _ => 0))) :: ((q2, .inl ((tq_la X).2.2 0, 4, .inl (upd (upd (upd (upd (fun _ => 0) 0 10) 1 5) 2 4) 3 20))) :: ((q3, .inl ((tq_la X).2.2 0, 28, .inl (fun _ => 0))) :: ((q4, .inl ((tq_la X).2.2 0, 160, .inl (fun _ => 0))) :: ((q5, .inl ((tq_la X).2.2 0, 8, .inl (upd (upd (upd (upd (upd (upd (upd (upd (fun _ => 0) 0 0) 1 5) 2 9) 3 13) 4 16) 5 20) 6 25) 7 29))) :: ((q6, .inl ((tq_la X).2.2 0, 29, .inl (upd (upd (upd (upd (upd (upd (upd (upd (upd (upd (upd (upd (upd (upd (upd (upd (upd (fun _ => 0) 0 112) 1 108) 2 97) 3 105) 4 110) 5 115) 6 111) 7 102) 8 116) 9 115) 10 104) 11 97) 12 109) 13 100) 14 114) 15 121) 16 114))) :: []))))))) rfl ?_
  refine gn_dup (pc := 204) C dX7_init_204 rfl ?_
  refine gn_bipush (pc := 205) (v := 17) C dX7_init_205 (by decide) ?_
  refine gn_bipush (pc := 207) (v := 111) C dX7_init_207 (by decide) ?_
  refine gn_iast (pc := 209) C dX7_init_209 6 rfl (vp_in_nI (n := 17) (by decide) (by decide)) ((h, .inr (7, [.ref q1, .ref q2, .int 0, .ref q3, .int 0, .int 0, .int 0, .ref q4, .int 0, .int 0, .int 0, .int 0, .int 0, .int 0, .int 0, .int 0, .ref q5, .null, .int 0, .int 0, .int 0, .null, .int 0, .null, .null, .null, .null, .null, .int 0])) :: ((q1, .inl ((tq_la X).2.2 0, 168, .inl (fun _ => 0))) :: ((q2, .inl ((tq_la X).2.2 0, 4, .inl (upd (upd (upd (upd (fun _ => 0) 0 10) 1 5) 2 4) 3 20))) :: ((q3, .inl ((tq_la X).2.2 0, 28, .inl (fun _ => 0))) :: ((q4, .inl ((tq_la X).2.2 0, 160, .inl (fun _ => 0))) :: ((q5, .inl ((tq_la X).2.2 0, 8, .inl (upd (upd (upd (upd (upd (upd (upd (upd (fun _ => 0) 0 0) 1 5) 2 9) 3 13) 4 16) 5 20) 6 25) 7 29))) :: ((q6, .inl ((tq_la X).2.2 0, 29, .inl (upd (upd (upd (upd (upd (upd (upd (upd (upd (upd (upd (upd (upd (upd (upd (upd (upd (upd (fun _ => 0) 0 112) 1 108) 2 97) 3 105) 4 110) 5 115) 6 111) 7 102) 8 116) 9 115) 10 104) 11 97) 12 109) 13 100) 14 114) 15 121) 16 114) 17 111))) :: []))))))) rfl ?_
  refine gn_dup (pc := 210) C dX7_init_210 rfl ?_
  refine gn_bipush (pc := 211) (v := 18) C dX7_init_211 (by decide) ?_
  refine gn_bipush (pc := 213) (v := 111) C dX7_init_213 (by decide) ?_
  refine gn_iast (pc := 215) C dX7_init_215 6 rfl (vp_in_nI (n := 18) (by decide) (by decide)) ((h, .inr (7, [.ref q1, .ref q2, .int 0, .ref q3, .int 0, .int 0, .int 0, .ref q4, .int 0, .int 0, .int 0, .int 0, .int 0, .int 0, .int 0, .int 0, .ref q5, .null, .int 0, .int 0, .int 0, .null, .int 0, .null, .null, .null, .null, .null, .int 0])) :: ((q1, .inl ((tq_la X).2.2 0, 168, .inl (fun _ => 0))) :: ((q2, .inl ((tq_la X).2.2 0, 4, .inl (upd (upd (upd (upd (fun _ => 0) 0 10) 1 5) 2 4) 3 20))) :: ((q3, .inl ((tq_la X).2.2 0, 28, .inl (fun _ => 0))) :: ((q4, .inl ((tq_la X).2.2 0, 160, .inl (fun _ => 0))) :: ((q5, .inl ((tq_la X).2.2 0, 8, .inl (upd (upd (upd (upd (upd (upd (upd (upd (fun _ => 0) 0 0) 1 5) 2 9) 3 13) 4 16) 5 20) 6 25) 7 29))) :: ((q6, .inl ((tq_la X).2.2 0, 29, .inl (upd (upd (upd (upd (upd (upd (upd (upd (upd (upd (upd (upd (upd (upd (upd (upd (upd (upd (upd (fun _ => 0) 0 112) 1 108) 2 97) 3 105) 4 110) 5 115) 6 111) 7 102) 8 116) 9 115) 10 104) 11 97) 12 109) 13 100) 14 114) 15 121) 16 114) 17 111) 18 111))) :: []))))))) rfl ?_
  refine gn_dup (pc := 216) C dX7_init_216 rfl ?_
  refine gn_bipush (pc := 217) (v := 19) C dX7_init_217 (by decide) ?_
  refine gn_bipush (pc := 219) (v := 109) C dX7_init_219 (by decide) ?_
  refine gn_iast (pc := 221) C dX7_init_221 6 rfl (vp_in_nI (n := 19) (by decide) (by decide)) ((h, .inr (7, [.ref q1, .ref q2, .int 0, .ref q3, .int 0, .int 0, .int 0, .ref q4, .int 0, .int 0, .int 0, .int 0, .int 0, .int 0, .int 0, .int 0, .ref q5, .null, .int 0, .int 0, .int 0, .null, .int 0, .null, .null, .null, .null, .null, .int 0])) :: ((q1, .inl ((tq_la X).2.2 0, 168, .inl (fun _ => 0))) :: ((q2, .inl ((tq_la X).2.2 0, 4, .inl (upd (upd (upd (upd (fun _ => 0) 0 10) 1 5) 2 4) 3 20))) :: ((q3, .inl ((tq_la X).2.2 0, 28, .inl (fun _ => 0))) :: ((q4, .inl ((tq_la X).2.2 0, 160, .inl (fun _ => 0))) :: ((q5, .inl ((tq_la X).2.2 0, 8, .inl (upd (upd (upd (upd (upd (upd (upd (upd (fun _ => 0) 0 0) 1 5) 2 9) 3 13) 4 16) 5 20) 6 25) 7 29))) :: ((q6, .inl ((tq_la X).2.2 0, 29, .inl (upd (upd (upd (upd (upd (upd (upd (upd (upd (upd (upd (upd (upd (upd (upd (upd (upd (upd (upd (upd (fun _ => 0) 0 112) 1 108) 2 97) 3 105) 4 110) 5 115) 6 111) 7 102) 8 116) 9 115) 10 104) 11 97) 12 109) 13 100) 14 114) 15 121) 16 114) 17 111) 18 111) 19 109))) :: []))))))) rfl ?_
  refine gn_dup (pc := 222) C dX7_init_222 rfl ?_
  refine gn_bipush (pc := 223) (v := 20) C dX7_init_223 (by decide) ?_
  refine gn_bipush (pc := 225) (v := 116) C dX7_init_225 (by decide) ?_
  refine gn_iast (pc := 227) C dX7_init_227 6 rfl (vp_in_nI (n := 20) (by decide) (by decide)) ((h, .inr (7, [.ref q1, .ref q2, .int 0, .ref q3, .int 0, .int 0, .int 0, .ref q4, .int 0, .int 0, .int 0, .int 0, .int 0, .int 0, .int 0, .int 0, .ref q5, .null, .int 0, .int 0, .int 0, .null, .int 0, .null, .null, .null, .null, .null, .int 0])) :: ((q1, .inl ((tq_la X).2.2 0, 168, .inl (fun _ => 0))) :: ((q2, .inl ((tq_la X).2.2 0, 4, .inl (upd (upd (upd (upd (fun _ => 0) 0 10) 1 5) 2 4) 3 20))) :: ((q3, .inl ((tq_la X).2.2 0, 28, .inl (fun _ => 0))) :: ((q4, .inl ((tq_la X).2.2 0, 160, .inl (fun _ => 0))) :: ((q5, .inl ((tq_la X).2.2 0, 8, .inl (upd (upd (upd (upd (upd (upd (upd (upd (fun _ => 0) 0 0) 1 5) 2 9) 3 13) 4 16) 5 20) 6 25) 7 29))) :: ((q6, .inl ((tq_la X).2.2 0, 29, .inl (upd (upd (upd (upd (upd (upd (upd (upd (upd (upd (upd (upd (upd (upd (upd (upd (upd (upd (upd (upd (upd (fun _ => 0) 0 112) 1 108) 2 97) 3 105) 4 110) 5 115) 6 111) 7 102) 8 116) 9 115) 10 104) 11 97) 12 109) 13 100) 14 114) 15 121) 16 114) 17 111) 18 111) 19 109) 20 116))) :: []))))))) rfl ?_
  refine gn_dup (pc := 228) C dX7_init_228 rfl ?_
  refine gn_bipush (pc := 229) (v := 21) C dX7_init_229 (by decide) ?_
  refine gn_bipush (pc := 231) (v := 104) C dX7_init_231 (by decide) ?_
  refine gn_iast (pc := 233) C dX7_init_233 6 rfl (vp_in_nI (n := 21) (by decide) (by decide)) ((h, .inr (7, [.ref q1, .ref q2, .int 0, .ref q3, .int 0, .int 0, .int 0, .ref q4, .int 0, .int 0, .int 0, .int 0, .int 0, .int 0, .int 0, .int 0, .ref q5, .null, .int 0, .int 0, .int 0, .null, .int 0, .null, .null, .null, .null, .null, .int 0])) :: ((q1, .inl ((tq_la X).2.2 0, 168, .inl (fun _ => 0))) :: ((q2, .inl ((tq_la X).2.2 0, 4, .inl (upd (upd (upd (upd (fun _ => 0) 0 10) 1 5) 2 4) 3 20))) :: ((q3, .inl ((tq_la X).2.2 0, 28, .inl (fun _ => 0))) :: ((q4, .inl ((tq_la X).2.2 0, 160, .inl (fun _ => 0))) :: ((q5, .inl ((tq_la X).2.2 0, 8, .inl (upd (upd (upd (upd (upd (upd (upd (upd (fun _ => 0) 0 0) 1 5) 2 9) 3 13) 4 16) 5 20) 6 25) 7 29))) :: ((q6, .inl ((tq_la X).2.2 0, 29, .inl (upd (upd (upd (upd (upd (upd (upd (upd (upd (upd (upd (upd (upd (upd (upd (upd (upd (upd (upd (upd (upd (upd (fun _ => 0) 0 112) 1 108) 2 97) 3 105) 4 110) 5 115) 6 111) 7 102) 8 116) 9 115) 10 104) 11 97) 12 109) 13 100) 14 114) 15 121) 16 114) 17 111) 18 111) 19 109) 20 116) 21 104))) :: []))))))) rfl ?_
  refine gn_dup (pc := 234) C dX7_init_234 rfl ?_
  refine gn_bipush (pc := 235) (v := 22) C dX7_init_235 (by decide) ?_
  refine gn_bipush (pc := 237) (v := 105) C dX7_init_237 (by decide) ?_
  refine gn_iast (pc := 239) C dX7_init_239 6 rfl (vp_in_nI (n := 22) (by decide) (by decide)) ((h, .inr (7, [.ref q1, .ref q2, .int 0, .ref q3, .int 0, .int 0, .int 0, .ref q4, .int 0, .int 0, .int 0, .int 0, .int 0, .int 0, .int 0, .int 0, .ref q5, .null, .int 0, .int 0, .int 0, .null, .int 0, .null, .null, .null, .null, .null, .int 0])) :: ((q1, .inl ((tq_la X).2.2 0, 168, .inl (fun _ => 0))) :: ((q2, .inl ((tq_la X).2.2 0, 4, .inl (upd (upd (upd (upd (fun _ => 0) 0 10) 1 5) 2 4) 3 20))) :: ((q3, .inl ((tq_la X).2.2 0, 28, .inl (fun _ => 0))) :: ((q4, .inl ((tq_la X).2.2 0, 160, .inl (fun _ => 0))) :: ((q5, .inl ((tq_la X).2.2 0, 8, .inl (upd (upd (upd (upd (upd (upd (upd (upd (fun _ => 0) 0 0) 1 5) 2 9) 3 13) 4 16) 5 20) 6 25) 7 29))) :: ((q6, .inl ((tq_la X).2.2 0, 29, .inl (upd (upd (upd (upd (upd (upd (upd (upd (upd (upd (upd (upd (upd (upd (upd (upd (upd (upd (upd (upd (upd (upd (upd (fun _ => 0) 0 112) 1 108) 2 97) 3 105) 4 110) 5 115) 6 111) 7 102) 8 116) 9 115) 10 104) 11 97) 12 109) 13 100) 14 114) 15 121) 16 114) 17 111) 18 111) 19 109) 20 116) 21 104) 22 105))) :: []))))))) rfl ?_
  refine gn_dup (pc := 240) C dX7_init_240 rfl ?_
  refine gn_bipush (pc := 241) (v := 23) C dX7_init_241 (by decide) ?_
  refine gn_bipush (pc := 243) (v := 110) C dX7_init_243 (by decide) ?_
  refine gn_iast (pc := 245) C dX7_init_245 6 rfl (vp_in_nI (n := 23) (by decide) (by decide)) ((h, .inr (7, [.ref q1, .ref q2, .int 0, .ref q3, .int 0, .int 0, .int 0, .ref q4, .int 0, .int 0, .int 0, .int 0, .int 0, .int 0, .int 0, .int 0, .ref q5, .null, .int 0, .int 0, .int 0, .null, .int 0, .null, .null, .null, .null, .null, .int 0])) :: ((q1, .inl ((tq_la X).2.2 0, 168, .inl (fun _ => 0))) :: ((q2, .inl ((tq_la X).2.2 0, 4, .inl (upd (upd (upd (upd (fun _ => 0) 0 10) 1 5) 2 4) 3 20))) :: ((q3, .inl ((tq_la X).2.2 0, 28, .inl (fun _ => 0))) :: ((q4, .inl ((tq_la X).2.2 0, 160, .inl (fun _ => 0))) :: ((q5, .inl ((tq_la X).2.2 0, 8, .inl (upd (upd (upd (upd (upd (upd (upd (upd (fun _ => 0) 0 0) 1 5) 2 9) 3 13) 4 16) 5 20) 6 25) 7 29))) :: ((q6, .inl ((tq_la X).2.2 0, 29, .inl (upd (upd (upd (upd (upd (upd (upd (upd (upd (upd (upd (upd (upd (upd (upd (upd (upd (upd (upd (upd (upd (upd (upd (upd (fun _ => 0) 0 112) 1 108) 2 97) 3 105) 4 110) 5 115) 6 111) 7 102) 8 116) 9 115) 10 104) 11 97) 12 109) 13 100) 14 114) 15 121) 16 114) 17 111) 18 111) 19 109) 20 116) 21 104) 22 105) 23 110))) :: []))))))) rfl ?_
  refine gn_dup (pc := 246) C dX7_init_246 rfl ?_
  refine gn_bipush (pc := 247) (v := 24) C dX7_init_247 (by decide) ?_
  refine gn_bipush (pc := 249) (v := 107) C dX7_init_249 (by decide) ?_
  refine gn_iast (pc := 251) C dX7_init_251 6 rfl (vp_in_nI (n := 24) (by decide) (by decide)) ((h, .inr (7, [.ref q1, .ref q2, .int 0, .ref q3, .int 0, .int 0, .int 0, .ref q4, .int 0, .int 0, .int 0, .int 0, .int 0, .int 0, .int 0, .int 0, .ref q5, .null, .int 0, .int 0, .int 0, .null, .int 0, .null, .null, .null, .null, .null, .int 0])) :: ((q1, .inl ((tq_la X).2.2 0, 168, .inl (fun _ => 0))) :: ((q2, .inl ((tq_la X).2.2 0, 4, .inl (upd (upd (upd (upd (fun _ => 0) 0 10) 1 5) 2 4) 3 20))) :: ((q3, .inl ((tq_la X).2.2 0, 28, .inl (fun _ => 0))) :: ((q4, .inl ((tq_la X).2.2 0, 160, .inl (fun _ => 0))) :: ((q5, .inl ((tq_la X).2.2 0, 8, .inl (upd (upd (upd (upd (upd (upd (upd (upd (fun _ => 0) 0 0) 1 5) 2 9) 3 13) 4 16) 5 20) 6 25) 7 29))) :: ((q6, .inl ((tq_la X).2.2 0, 29, .inl (upd (upd (upd (upd (upd (upd (upd (upd (upd (upd (upd (upd (upd (upd (upd (upd (upd (upd (upd (upd (upd (upd (upd (upd (upd (fun _ => 0) 0 112) 1 108) 2 97) 3 105) 4 110) 5 115) 6 111) 7 102) 8 116) 9 115) 10 104) 11 97) 12 109) 13 100) 14 114) 15 121) 16 114) 17 111) 18 111) 19 109) 20 116) 21 104) 22 105) 23 110) 24 107))) :: []))))))) rfl ?_
  refine gn_dup (pc := 252) C dX7_init_252 rfl ?_
  refine gn_bipush (pc := 253) (v := 25) C dX7_init_253 (by decide) ?_
  refine gn_bipush (pc := 255) (v := 112) C dX7_init_255 (by decide) ?_
  refine gn_iast (pc := 257) C dX7_init_257 6 rfl (vp_in_nI (n := 25) (by decide) (by decide)) ((h, .inr (7, [.ref q1, .ref q2, .int 0, .ref q3, .int 0, .int 0, .int 0, .ref q4, .int 0, .int 0, .int 0, .int 0, .int 0, .int 0, .int 0, .int 0, .ref q5, .null, .int 0, .int 0, .int 0, .null, .int 0, .null, .null, .null, .null, .null, .int 0])) :: ((q1, .inl ((tq_la X).2.2 0, 168, .inl (fun _ => 0))) :: ((q2, .inl ((tq_la X).2.2 0, 4, .inl (upd (upd (upd (upd (fun _ => 0) 0 10) 1 5) 2 4) 3 20))) :: ((q3, .inl ((tq_la X).2.2 0, 28, .inl (fun _ => 0))) :: ((q4, .inl ((tq_la X).2.2 0, 160, .inl (fun _ => 0))) :: ((q5, .inl ((tq_la X).2.2 0, 8, .inl (upd (upd (upd (upd (upd (upd (upd (upd (fun _ => 0) 0 0) 1 5) 2 9) 3 13) 4 16) 5 20) 6 25) 7 29))) :: ((q6, .inl ((tq_la X).2.2 0, 29, .inl (upd (upd (upd (upd (upd (upd (upd (upd (upd (upd (upd (upd (upd (upd (upd (upd (upd (upd (upd (upd (upd (upd (upd (upd (upd (upd (fun _ => 0) 0 112) 1 108) 2 97) 3 105) 4 110) 5 115) 6 111) 7 102) 8 116) 9 115) 10 104) 11 97) 12 109) 13 100) 14 114) 15 121) 16 114) 17 111) 18 111) 19 109) 20 116) 21 104) 22 105) 23 110) 24 107) 25 112))) :: []))))))) rfl ?_
  refine gn_dup (pc := 258) C dX7_init_258 rfl ?_
  refine gn_bipush (pc := 259) (v := 26) C dX7_init_259 (by decide) ?_
  refine gn_bipush (pc := 261) (v := 108) C dX7_init_261 (by decide) ?_
  refine gn_iast (pc := 263) C dX7_init_263 6 rfl (vp_in_nI (n := 26) (by decide) (by decide)) ((h, .inr (7, [.ref q1, .ref q2, .int 0, .ref q3, .int 0, .int 0, .int 0, .ref q4, .int 0, .int 0, .int 0, .int 0, .int 0, .int 0, .int 0, .int 0, .ref q5, .null, .int 0, .int 0, .int 0, .null, .int 0, .null, .null, .null, .null, .null, .int 0])) :: ((q1, .inl ((tq_la X).2.2 0, 168, .inl (fun _ => 0))) :: ((q2, .inl ((tq_la X).2.2 0, 4, .inl (upd (upd (upd (upd (fun _ => 0) 0 10) 1 5) 2 4) 3 20))) :: ((q3, .inl ((tq_la X).2.2 0, 28, .inl (fun _ => 0))) :: ((q4, .inl ((tq_la X).2.2 0, 160, .inl (fun _ => 0))) :: ((q5, .inl ((tq_la X).2.2 0, 8, .inl (upd (upd (upd (upd (upd (upd (upd (upd (fun _ => 0) 0 0) 1 5) 2 9) 3 13) 4 16) 5 20) 6 25) 7 29))) :: ((q6, .inl ((tq_la X).2.2 0, 29, .inl (upd (upd (upd (upd (upd (upd (upd (upd (upd (upd (upd (upd (upd (upd (upd (upd (upd (upd (upd (upd (upd (upd (upd (upd (upd (upd (upd (fun _ => 0) 0 112) 1 108) 2 97) 3 105) 4 110) 5 115) 6 111) 7 102) 8 116) 9 115) 10 104) 11 97) 12 109) 13 100) 14 114) 15 121) 16 114) 17 111) 18 111) 19 109) 20 116) 21 104) 22 105) 23 110) 24 107) 25 112) 26 108))) :: []))))))) rfl ?_
  refine gn_dup (pc := 264) C dX7_init_264 rfl ?_
  refine gn_bipush (pc := 265) (v := 27) C dX7_init_265 (by decide) ?_
  refine gn_bipush (pc := 267) (v := 97) C dX7_init_267 (by decide) ?_
  refine gn_iast (pc := 269) C dX7_init_269 6 rfl (vp_in_nI (n := 27) (by decide) (by decide)) ((h, .inr (7, [.ref q1, .ref q2, .int 0, .ref q3, .int 0, .int 0, .int 0, .ref q4, .int 0, .int 0, .int 0, .int 0, .int 0, .int 0, .int 0, .int 0, .ref q5, .null, .int 0, .int 0, .int 0, .null, .int 0, .null, .null, .null, .null, .null, .int 0])) :: ((q1, .inl ((tq_la X).2.2 0, 168, .inl (fun _ => 0))) :: ((q2, .inl ((tq_la X).2.2 0, 4, .inl (upd (upd (upd (upd (fun _ => 0) 0 10) 1 5) 2 4) 3 20))) :: ((q3, .inl ((tq_la X).2.2 0, 28, .inl (fun _ => 0))) :: ((q4, .inl ((tq_la X).2.2 0, 160, .inl (fun _ => 0))) :: ((q5, .inl ((tq_la X).2.2 0, 8, .inl (upd (upd (upd (upd (upd (upd (upd (upd (fun _ => 0) 0 0) 1 5) 2 9) 3 13) 4 16) 5 20) 6 25) 7 29))) :: ((q6, .inl ((tq_la X).2.2 0, 29, .inl (upd (upd (upd (upd (upd (upd (upd (upd (upd (upd (upd (upd (upd (upd (upd (upd (upd (upd (upd (upd (upd (upd (upd (upd (upd (upd (upd (upd (fun _ => 0) 0 112) 1 108) 2 97) 3 105) 4 110) 5 115) 6 111) 7 102) 8 116) 9 115) 10 104) 11 97) 12 109) 13 100) 14 114) 15 121) 16 114) 17 111) 18 111) 19 109) 20 116) 21 104) 22 105) 23 110) 24 107) 25 112) 26 108) 27 97))) :: []))))))) rfl ?_
  refine gn_dup (pc := 270) C dX7_init_270 rfl ?_
  refine gn_bipush (pc := 271) (v := 28) C dX7_init_271 (by decide) ?_
  refine gn_bipush (pc := 273) (v := 110) C dX7_init_273 (by decide) ?_
  refine gn_iast (pc := 275) C dX7_init_275 6 rfl (vp_in_nI (n := 28) (by decide) (by decide)) ((h, .inr (7, [.ref q1, .ref q2, .int 0, .ref q3, .int 0, .int 0, .int 0, .ref q4, .int 0, .int 0, .int 0, .int 0, .int 0, .int 0, .int 0, .int 0, .ref q5, .null, .int 0, .int 0, .int 0, .null, .int 0, .null, .null, .null, .null, .null, .int 0])) :: ((q1, .inl ((tq_la X).2.2 0, 168, .inl (fun _ => 0))) :: ((q2, .inl ((tq_la X).2.2 0, 4, .inl (upd (upd (upd (upd (fun _ => 0) 0 10) 1 5) 2 4) 3 20))) :: ((q3, .inl ((tq_la X).2.2 0, 28, .inl (fun _ => 0))) :: ((q4, .inl ((tq_la X).2.2 0, 160, .inl (fun _ => 0))) :: ((q5, .inl ((tq_la X).2.2 0, 8, .inl (upd (upd (upd (upd (upd (upd (upd (upd (fun _ => 0) 0 0) 1 5) 2 9) 3 13) 4 16) 5 20) 6 25) 7 29))) :: ((q6, .inl ((tq_la X).2.2 0, 29, .inl (upd (upd (upd (upd (upd (upd (upd (upd (upd (upd (upd (upd (upd (upd (upd (upd (upd (upd (upd (upd (upd (upd (upd (upd (upd (upd (upd (upd (upd (fun _ => 0) 0 112) 1 108) 2 97) 3 105) 4 110) 5 115) 6 111) 7 102) 8 116) 9 115) 10 104) 11 97) 12 109) 13 100) 14 114) 15 121) 16 114) 17 111) 18 111) 19 109) 20 116) 21 104) 22 105) 23 110) 24 107) 25 112) 26 108) 27 97) 28 110))) :: []))))))) rfl ?_
  refine gn_putF (pc := 276) C dX7_init_276 rfl itX7 tyX7 tyX7_ok nmX7 17 (by decide) (tq_mem (tb_4 (List.mem_of_getElem? (i := 87) rfl)) rfl) rfl rfl (ty := tyX7 17) (by decide +kernel) rfl rfl (Nat.le_of_ble_eq_true rfl) [.ref q1, .ref q2, .int 0, .ref q3, .int 0, .int 0, .int 0, .ref q4, .int 0, .int 0, .int 0, .int 0, .int 0, .int 0, .int 0, .int 0, .ref q5, .ref q6, .int 0, .int 0, .int 0, .null, .int 0, .null, .null, .null, .null, .null, .int 0] rfl ?_
  refine gn_aload_n (pc := 279) C dX7_init_279 0 rfl rfl ?_
  refine gn_bipush (pc := 280) (v := 12) C dX7_init_280 (by decide) ?_
  refine gn_newa (pc := 282) C dX7_init_282 rfl (tq_mem (tb_1 (List.mem_of_getElem? (i := 96) rfl)) rfl) 0 rfl 12 (12, .inl (fun _ => 0)) (fun cA => rfl) (by decide) (by decide) (by decide) (by rw [hQ]; decide) (by rw [hQ]; decide) (fun q7 => ?_)
  refine gn_putF (pc := 284) C dX7_init_284 rfl itX7 tyX7 tyX7_ok nmX7 21 (by decide) (tq_mem (tb_4 (List.mem_of_getElem? (i := 91) rfl)) rfl) rfl rfl (ty := tyX7 21) (by decide +kernel) rfl rfl (Nat.le_of_ble_eq_true rfl) [.ref q1, .ref q2, .int 0, .ref q3, .int 0, .int 0, .int 0, .ref q4, .int 0, .int 0, .int 0, .int 0, .int 0, .int 0, .int 0, .int 0, .ref q5, .ref q6, .int 0, .int 0, .int 0, .ref q7, .int 0, .null, .null, .null, .null, .null, .int 0] rfl ?_
  refine gn_aload_n (pc := 287) C dX7_init_287 0 rfl rfl ?_
  refine gn_bipush (pc := 288) (v := 21) C dX7_init_288 (by decide) ?_
  refine gn_newa (pc := 290) C dX7_init_290 rfl (tq_mem (tb_1 (List.mem_of_getElem? (i := 96) rfl)) rfl) 0 rfl 21 (21, .inl (fun _ => 0)) (fun cA => rfl) (by decide) (by decide) (by decide) (by rw [hQ]; decide) (by rw [hQ]; decide) (fun q8 => ?_)
  refine gn_putF (pc := 292) C dX7_init_292 rfl itX7 tyX7 tyX7_ok nmX7 23 (by decide) (tq_mem (tb_4 (List.mem_of_getElem? (i := 93) rfl)) rfl) rfl rfl (ty := tyX7 23) (by decide +kernel) rfl rfl (Nat.le_of_ble_eq_true rfl) [.ref q1, .ref q2, .int 0, .ref q3, .int 0, .int 0, .int 0, .ref q4, .int 0, .int 0, .int 0, .int 0, .int 0, .int 0, .int 0, .int 0, .ref q5, .ref q6, .int 0, .int 0, .int 0, .ref q7, .int 0, .ref q8, .null, .null, .null, .null, .int 0] rfl ?_
  refine gn_aload_n (pc := 295) C dX7_init_295 0 rfl rfl ?_
  refine gn_iconst (pc := 296) (v := 2) C dX7_init_296 (by decide) ?_
  refine gn_newa (pc := 297) C dX7_init_297 rfl (tq_mem (tb_1 (List.mem_of_getElem? (i := 157) rfl)) rfl) 2 rfl 2 (2, .inl (fun _ => 0)) (fun cA => rfl) (by decide) (by decide) (by decide) (by rw [hQ]; decide) (by rw [hQ]; decide) (fun q9 => ?_)
  refine gn_putF (pc := 299) C dX7_init_299 rfl itX7 tyX7 tyX7_ok nmX7 24 (by decide) (tq_mem (tb_4 (List.mem_of_getElem? (i := 94) rfl)) rfl) rfl rfl (ty := tyX7 24) (by decide +kernel) rfl rfl (Nat.le_of_ble_eq_true rfl) [.ref q1, .ref q2, .int 0, .ref q3, .int 0, .int 0, .int 0, .ref q4, .int 0, .int 0, .int 0, .int 0, .int 0, .int 0, .int 0, .int 0, .ref q5, .ref q6, .int 0, .int 0, .int 0, .ref q7, .int 0, .ref q8, .ref q9, .null, .null, .null, .int 0] rfl ?_
  refine gn_aload_n (pc := 302) C dX7_init_302 0 rfl rfl ?_
  refine gn_iconst (pc := 303) (v := 4) C dX7_init_303 (by decide) ?_
  refine gn_newa (pc := 304) C dX7_init_304 rfl (tq_mem (tb_1 (List.mem_of_getElem? (i := 96) rfl)) rfl) 0 rfl 4 (4, .inl (fun _ => 0)) (fun cA => rfl) (by decide) (by decide) (by decide) (by rw [hQ]; decide) (by rw [hQ]; decide) (fun q10 => ?_)
  refine gn_dup (pc := 306) C dX7_init_306 rfl ?_
  refine gn_iconst (pc := 307) (v := 0) C dX7_init_307 (by decide) ?_
  refine gn_bipush (pc := 308) (v := (-4)) C dX7_init_308 (by decide) ?_
  refine gn_iast (pc := 310) C dX7_init_310 10 rfl (vp_in_nI (n := 0) (by decide) (by decide)) ((h, .inr (7, [.ref q1, .ref q2, .int 0, .ref q3, .int 0, .int 0, .int 0, .ref q4, .int 0, .int 0, .int 0, .int 0, .int 0, .int 0, .int 0, .int 0, .ref q5, .ref q6, .int 0, .int 0, .int 0, .ref q7, .int 0, .ref q8, .ref q9, .null, .null, .null, .int 0])) :: ((q1, .inl ((tq_la X).2.2 0, 168, .inl (fun _ => 0))) :: ((q2, .inl ((tq_la X).2.2 0, 4, .inl (upd (upd (upd (upd (fun _ => 0) 0 10) 1 5) 2 4) 3 20))) :: ((q3, .inl ((tq_la X).2.2 0, 28, .inl (fun _ => 0))) :: ((q4, .inl ((tq_la X).2.2 0, 160, .inl (fun _ => 0))) :: ((q5, .inl ((tq_la X).2.2 0, 8, .inl (upd (upd (upd (upd (upd (upd (upd (upd (fun _ => 0) 0 0) 1 5) 2 9) 3 13) 4 16) 5 20) 6 25) 7 29))) :: ((q6, .inl ((tq_la X).2.2 0, 29, .inl (upd (upd (upd (upd (upd (upd (upd (upd (upd (upd (upd (upd (upd (upd (upd (upd (upd (upd (upd (upd (upd (upd (upd (upd (upd (upd (upd (upd (upd (fun _ => 0) 0 112) 1 108) 2 97) 3 105) 4 110) 5 115) 6 111) 7 102) 8 116) 9 115) 10 104) 11 97) 12 109) 13 100) 14 114) 15 121) 16 114) 17 111) 18 111) 19 109) 20 116) 21 104) 22 105) 23 110) 24 107) 25 112) 26 108) 27 97) 28 110))) :: ((q7, .inl ((tq_la X).2.2 0, 12, .inl (fun _ => 0))) :: ((q8, .inl ((tq_la X).2.2 0, 21, .inl (fun _ => 0))) :: ((q9, .inl ((tq_la X).2.2 2, 2, .inl (fun _ => 0))) :: ((q10, .inl ((tq_la X).2.2 0, 4, .inl (upd (fun _ => 0) 0 (-4)))) :: []))))))))))) rfl ?_
  refine gn_dup (pc := 311) C dX7_init_311 rfl ?_
  refine gn_iconst (pc := 312) (v := 1) C dX7_init_312 (by decide) ?_
  refine gn_bipush (pc := 313) (v := (-4)) C dX7_init_313 (by decide) ?_
  refine gn_iast (pc := 315) C dX7_init_315 10 rfl (vp_in_nI (n := 1) (by decide) (by decide)) ((h, .inr (7, [.ref q1, .ref q2, .int 0, .ref q3, .int 0, .int 0, .int 0, .ref q4, .int 0, .int 0, .int 0, .int 0, .int 0, .int 0, .int 0, .int 0, .ref q5, .ref q6, .int 0, .int 0, .int 0, .ref q7, .int 0, .ref q8, .ref q9, .null, .null, .null, .int 0])) :: ((q1, .inl ((tq_la X).2.2 0, 168, .inl (fun _ => 0))) :: ((q2, .inl ((tq_la X).2.2 0, 4, .inl (upd (upd (upd (upd (fun _ => 0) 0 10) 1 5) 2 4) 3 20))) :: ((q3, .inl ((tq_la X).2.2 0, 28, .inl (fun _ => 0))) :: ((q4, .inl ((tq_la X).2.2 0, 160, .inl (fun _ => 0))) :: ((q5, .inl ((tq_la X).2.2 0, 8, .inl (upd (upd (upd (upd (upd (upd (upd (upd (fun _ => 0) 0 0) 1 5) 2 9) 3 13) 4 16) 5 20) 6 25) 7 29))) :: ((q6, .inl ((tq_la X).2.2 0, 29, .inl (upd (upd (upd (upd (upd (upd (upd (upd (upd (upd (upd (upd (upd (upd (upd (upd (upd (upd (upd (upd (upd (upd (upd (upd (upd (upd (upd (upd (upd (fun _ => 0) 0 112) 1 108) 2 97) 3 105) 4 110) 5 115) 6 111) 7 102) 8 116) 9 115) 10 104) 11 97) 12 109) 13 100) 14 114) 15 121) 16 114) 17 111) 18 111) 19 109) 20 116) 21 104) 22 105) 23 110) 24 107) 25 112) 26 108) 27 97) 28 110))) :: ((q7, .inl ((tq_la X).2.2 0, 12, .inl (fun _ => 0))) :: ((q8, .inl ((tq_la X).2.2 0, 21, .inl (fun _ => 0))) :: ((q9, .inl ((tq_la X).2.2 2, 2, .inl (fun _ => 0))) :: ((q10, .inl ((tq_la X).2.2 0, 4, .inl (upd (upd (fun _ => 0) 0 (-4)) 1 (-4)))) :: []))))))))))) rfl ?_
  refine gn_dup (pc := 316) C dX7_init_316 rfl ?_
  refine gn_iconst (pc := 317) (v := 2) C dX7_init_317 (by decide) ?_
  refine gn_bipush (pc := 318) (v := (-4)) C dX7_init_318 (by decide) ?_
  refine gn_iast (pc := 320) C dX7_init_320 10 rfl (vp_in_nI (n := 2) (by decide) (by decide)) ((h, .inr (7, [.ref q1, .ref q2, .int 0, .ref q3, .int 0, .int 0, .int 0, .ref q4, .int 0, .int 0, .int 0, .int 0, .int 0, .int 0, .int 0, .int 0, .ref q5, .ref q6, .int 0, .int 0, .int 0, .ref q7, .int 0, .ref q8, .ref q9, .null, .null, .null, .int 0])) :: ((q1, .inl ((tq_la X).2.2 0, 168, .inl (fun _ => 0))) :: ((q2, .inl ((tq_la X).2.2 0, 4, .inl (upd (upd (upd (upd (fun _ => 0) 0 10) 1 5) 2 4) 3 20))) :: ((q3, .inl ((tq_la X).2.2 0, 28, .inl (fun _ => 0))) :: ((q4, .inl ((tq_la X).2.2 0, 160, .inl (fun _ => 0))) :: ((q5, .inl ((tq_la X).2.2 0, 8, .inl (upd (upd (upd (upd (upd (upd (upd (upd (fun _ => 0) 0 0) 1 5) 2 9) 3 13) 4 16) 5 20) 6 25) 7 29))) :: ((q6, .inl ((tq_la X).2.2 0, 29, .inl (upd (upd (upd (upd (upd (upd (upd (upd (upd (upd (upd (upd (upd (upd (upd (upd (upd (upd (upd (upd (upd (upd (upd (upd (upd (upd (upd (upd (upd (fun _ => 0) 0 112) 1 108) 2 97) 3 105) 4 110) 5 115) 6 111) 7 102) 8 116) 9 115) 10 104) 11 97) 12 109) 13 100) 14 114) 15 121) 16 114) 17 111) 18 111) 19 109) 20 116) 21 104) 22 105) 23 110) 24 107) 25 112) 26 108) 27 97) 28 110))) :: ((q7, .inl ((tq_la X).2.2 0, 12, .inl (fun _ => 0))) :: ((q8, .inl ((tq_la X).2.2 0, 21, .inl (fun _ => 0))) :: ((q9, .inl ((tq_la X).2.2 2, 2, .inl (fun _ => 0))) :: ((q10, .inl ((tq_la X).2.2 0, 4, .inl (upd (upd (upd (fun _ => 0) 0 (-4)) 1 (-4)) 2 (-4)))) :: []))))))))))) rfl ?_
  refine gn_dup (pc := 321) C dX7_init_321 rfl ?_
  refine gn_iconst (pc := 322) (v := 3) C dX7_init_322 (by decide) ?_
  refine gn_bipush (pc := 323) (v := (-4)) C dX7_init_323 (by decide) ?_
  refine gn_iast (pc := 325) C dX7_init_325 10 rfl (vp_in_nI (n := 3) (by decide) (by decide)) ((h, .inr (7, [.ref q1, .ref q2, .int 0, .ref q3, .int 0, .int 0, .int 0, .ref q4, .int 0, .int 0, .int 0, .int 0, .int 0, .int 0, .int 0, .int 0, .ref q5, .ref q6, .int 0, .int 0, .int 0, .ref q7, .int 0, .ref q8, .ref q9, .null, .null, .null, .int 0])) :: ((q1, .inl ((tq_la X).2.2 0, 168, .inl (fun _ => 0))) :: ((q2, .inl ((tq_la X).2.2 0, 4, .inl (upd (upd (upd (upd (fun _ => 0) 0 10) 1 5) 2 4) 3 20))) :: ((q3, .inl ((tq_la X).2.2 0, 28, .inl (fun _ => 0))) :: ((q4, .inl ((tq_la X).2.2 0, 160, .inl (fun _ => 0))) :: ((q5, .inl ((tq_la X).2.2 0, 8, .inl (upd (upd (upd (upd (upd (upd (upd (upd (fun _ => 0) 0 0) 1 5) 2 9) 3 13) 4 16) 5 20) 6 25) 7 29))) :: ((q6, .inl ((tq_la X).2.2 0, 29, .inl (upd (upd (upd (upd (upd (upd (upd (upd (upd (upd (upd (upd (upd (upd (upd (upd (upd (upd (upd (upd (upd (upd (upd (upd (upd (upd (upd (upd (upd (fun _ => 0) 0 112) 1 108) 2 97) 3 105) 4 110) 5 115) 6 111) 7 102) 8 116) 9 115) 10 104) 11 97) 12 109) 13 100) 14 114) 15 121) 16 114) 17 111) 18 111) 19 109) 20 116) 21 104) 22 105) 23 110) 24 107) 25 112) 26 108) 27 97) 28 110))) :: ((q7, .inl ((tq_la X).2.2 0, 12, .inl (fun _ => 0))) :: ((q8, .inl ((tq_la X).2.2 0, 21, .inl (fun _ => 0))) :: ((q9, .inl ((tq_la X).2.2 2, 2, .inl (fun _ => 0))) :: ((q10, .inl ((tq_la X).2.2 0, 4, .inl (upd (upd (upd (upd (fun _ => 0) 0 (-4)) 1 (-4)) 2 (-4)) 3 (-4)))) :: []))))))))))) rfl ?_
  refine gn_putF (pc := 326) C dX7_init_326 rfl itX7 tyX7 tyX7_ok nmX7 25 (by decide) (tq_mem (tb_4 (List.mem_of_getElem? (i := 95) rfl)) rfl) rfl rfl (ty := tyX7 25) (by decide +kernel) rfl rfl (Nat.le_of_ble_eq_true rfl) [.ref q1, .ref q2, .int 0, .ref q3, .int 0, .int 0, .int 0, .ref q4, .int 0, .int 0, .int 0, .int 0, .int 0, .int 0, .int 0, .int 0, .ref q5, .ref q6, .int 0, .int 0, .int 0, .ref q7, .int 0, .ref q8, .ref q9, .ref q10, .null, .null, .int 0] rfl ?_
  refine gn_aload_n (pc := 329) C dX7_init_329 0 rfl rfl ?_
  refine gn_iconst (pc := 330) (v := 4) C dX7_init_330 (by decide) ?_
  refine gn_newa (pc := 331) C dX7_init_331 rfl (tq_mem (tb_1 (List.mem_of_getElem? (i := 96) rfl)) rfl) 0 rfl 4 (4, .inl (fun _ => 0)) (fun cA => rfl) (by decide) (by decide) (by decide) (by rw [hQ]; decide) (by rw [hQ]; decide) (fun q11 => ?_)
  refine gn_putF (pc := 333) C dX7_init_333 rfl itX7 tyX7 tyX7_ok nmX7 26 (by decide) (tq_mem (tb_4 (List.mem_of_getElem? (i := 96) rfl)) rfl) rfl rfl (ty := tyX7 26) (by decide +kernel) rfl rfl (Nat.le_of_ble_eq_true rfl) [.ref q1, .ref q2, .int 0, .ref q3, .int 0, .int 0, .int 0, .ref q4, .int 0, .int 0, .int 0, .int 0, .int 0, .int 0, .int 0, .int 0, .ref q5, .ref q6, .int 0, .int 0, .int 0, .ref q7, .int 0, .ref q8, .ref q9, .ref q10, .ref q11, .null, .int 0] rfl ?_
  refine gn_aload_n (pc := 336) C dX7_init_336 0 rfl rfl ?_
  refine gn_sipush (pc := 337) (v := 160) C dX7_init_337 (by decide) ?_
  refine gn_newa (pc := 340) C dX7_init_340 rfl (tq_mem (tb_1 (List.mem_of_getElem? (i := 96) rfl)) rfl) 0 rfl 160 (160, .inl (fun _ => 0)) (fun cA => rfl) (by decide) (by decide) (by decide) (by rw [hQ]; decide) (by rw [hQ]; decide) (fun q12 => ?_)
  refine gn_putF (pc := 342) C dX7_init_342 rfl itX7 tyX7 tyX7_ok nmX7 27 (by decide) (tq_mem (tb_4 (List.mem_of_getElem? (i := 97) rfl)) rfl) rfl rfl (ty := tyX7 27) (by decide +kernel) rfl rfl (Nat.le_of_ble_eq_true rfl) [.ref q1, .ref q2, .int 0, .ref q3, .int 0, .int 0, .int 0, .ref q4, .int 0, .int 0, .int 0, .int 0, .int 0, .int 0, .int 0, .int 0, .ref q5, .ref q6, .int 0, .int 0, .int 0, .ref q7, .int 0, .ref q8, .ref q9, .ref q10, .ref q11, .ref q12, .int 0] rfl ?_
  exact hR (fun i => if i = 0 then q1 else if i = 1 then q2 else if i = 2 then q3 else if i = 3 then q4 else if i = 4 then q5 else if i = 5 then q6 else if i = 6 then q7 else if i = 7 then q8 else if i = 8 then q9 else if i = 9 then q10 else if i = 10 then q11 else if i = 11 then q12 else 0) _ _ dX7_init_345
end
