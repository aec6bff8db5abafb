section NH
variable {X : tq_Cx} {cc : ByteArray} {nL : Nat} {own : String} {kr : Nat} {ws : va_W} {nc ns : Nat} {pc : Nat} {lv : List (Nat × Value)} {st : List Value}
theorem tq_same {D : va_G} {cl : List vw_C} {tys : List (ClassId × FieldType)} {s : State} {cA c1 : ClassId} {ty : FieldType} {t : Nat} (h : va_K D cl (tys ++ [(cA, ty)]) s) (ht : tys[t]? = some (c1, ty)) : cA = c1 := by
  have hl : t < tys.length := (List.getElem?_eq_some_iff.mp ht).1
  have h1 := (h.2 t (c1, ty) (by rw [List.getElem?_append_left hl]; exact ht)).2
  have h2 := (h.2 tys.length (cA, ty) (by simp)).2
  have e : ∀ c : ClassId, va_RA s c ty → s.vm.findClass ("[" ++ ty.toString) = some c := by
    intro c hc
    cases ty with
    | object C => obtain ⟨kA, comp, -, -, -, h4⟩ := hc; exact h4
    | _ => exact hc
  exact Option.some.inj ((e cA h2).symm.trans (e c1 h1))
theorem gn_objInit (C : tq_D X cc nL own kr) (hkr : 1 ≤ kr) {idx b : Nat} (hl : Cond.methodLink own idx Lib.objectInit ∈ tq_tbl) (hin : Cond.instanceMethod Lib.objectInit ∈ tq_tbl) (hco : Cond.code Lib.objectInit ⟨#[0xb1]⟩ 1 none ∈ tq_tbl) (hd : decode cc pc = .ok (.invokespecial idx, 3)) (g : GoN X nL ws nc ns (pc + 3) lv []) : GoN X nL ws nc ns pc lv [.ref b] := by
  obtain ⟨p, l, e, R, s, m, args, below, meth, c, A, a, z, Q⟩ := X
  intro H locs ls hP hD hS hlv
  have hR := C.2.2.2.2.2.2.1
  exact W.objInit C.1 C.2.1 C.2.2.2.1 (C.2.2.2.2.1 _ hl) (C.2.2.2.2.1 _ hin) (C.2.2.2.2.1 _ hco) (g := F0 m pc ls [.ref b]) rfl (by rw [C.2.2.1]; exact hlv.1) rfl hd (Nat.le_trans hkr hR.1) (Nat.le_trans (by show 12 ≤ 100 * kr; omega) hR.2.1) (g H locs ls hP hD hS hlv)
theorem gn_newa (C : tq_D X cc nL own kr) {atype : ArrayType} {ty : FieldType} (hd : decode cc pc = .ok (.newarray atype, 2)) (hty : newarray.typeOf atype = ty) (harr : Cond.arrayClass (newarray.typeOf atype) ∈ tq_tbl) (t : Nat) (ht : (tq_ty (tq_la X))[t]? = some ((tq_la X).2.2 t, ty)) {n : Int32} (N : Nat) (a0 : vp_A) (ha : ∀ cA : ClassId, vp_cell cA a0 = arrV cA N (fun _ => defaultValue ty)) (hn : ¬ n < 0) (hN : n.toNatClampNeg = N) (hby : N * componentBytes ty ≤ 536870912) (hc : nc + 1 ≤ X.2.2.2.2.2.2.2.2.2.2.2.2.2.1.1) (hs : ns + N ≤ X.2.2.2.2.2.2.2.2.2.2.2.2.2.1.2) (g : ∀ q : Nat, GoN X nL (ws ++ [(q, .inl ((tq_la X).2.2 t, a0))]) (nc + 1) (ns + N) (pc + 2) lv (.ref q :: st)) : GoN X nL ws nc ns pc lv (.int n :: st) := by
  obtain ⟨p, l, e, R, s, m, args, below, meth, c, A, a, z, Q⟩ := X
  intro H locs ls hP hD hS hl
  have hR := C.2.2.2.2.2.2.1
  have hK : va_K a.2.1 vwCl (tq_ty a) s := C.2.2.2.2.2.1
  refine va_newa C.1 C.2.1 (C.2.2.2.2.1 _ harr) hty hK hP hD hS C.2.2.2.2.2.2.2.1 ha hn hN hby (Nat.le_trans hc hR.2.2.1) (Nat.le_trans hs hR.2.2.2) hd (fun q cA H1 hK1 hP1 hD1 hS1 => ?_)
  have e1 : cA = a.2.2 t := tq_same hK1 ht
  subst e1
  exact g q H1 locs ls hP1 hD1 hS1 hl
theorem gn_anew (C : tq_D X cc nL own kr) {Cn : String} {index : Nat} (hd : decode cc pc = .ok (.anewarray index, 3)) (hcl : Cond.classLink own index Cn ∈ tq_tbl) (hov : va_AO Cn X.2.2.2.2.1) (t : Nat) (ht : (tq_ty (tq_la X))[t]? = some ((tq_la X).2.2 t, .object Cn)) {n : Int32} (N : Nat) (hn : ¬ n < 0) (hN : n.toNatClampNeg = N) (hby : N * 4 ≤ 536870912) (hc : nc + 1 ≤ X.2.2.2.2.2.2.2.2.2.2.2.2.2.1.1) (hs : ns + N ≤ X.2.2.2.2.2.2.2.2.2.2.2.2.2.1.2) (g : ∀ q : Nat, GoN X nL (ws ++ [(q, .inl ((tq_la X).2.2 t, N, .inr (.inr (.inr (.inr (fun _ => none))))))]) (nc + 1) (ns + N) (pc + 3) lv (.ref q :: st)) : GoN X nL ws nc ns pc lv (.int n :: st) := by
  obtain ⟨p, l, e, R, s, m, args, below, meth, c, A, a, z, Q⟩ := X
  intro H locs ls hP hD hS hl
  have hR := C.2.2.2.2.2.2.1
  have hK : va_K a.2.1 vwCl (tq_ty a) s := C.2.2.2.2.2.1
  refine va_newq C.1 C.2.1 C.2.2.2.1 (C.2.2.2.2.1 _ hcl) hov hK hP hD hS C.2.2.2.2.2.2.2.1 hn hN hby (Nat.le_trans hc hR.2.2.1) (Nat.le_trans hs hR.2.2.2) hd (fun q cA H1 hK1 hP1 hD1 hS1 => ?_)
  have e1 : cA = a.2.2 t := tq_same hK1 ht
  subst e1
  exact g q H1 locs ls hP1 hD1 hS1 hl
theorem gn_new (C : tq_D X cc nL own kr) {Cn : String} {T : u_T} {N ci index : Nat} (hd : decode cc pc = .ok (.new index, 3)) (hcl : Cond.classLink own index Cn ∈ tq_tbl) (hinst : Cond.instantiable Cn N ∈ tq_tbl) (hini : Cond.initialized Cn ∈ tq_tbl) (hin : ∀ w ∈ u_ws Cn T N, w ∈ tq_tbl) (ty : Nat → FieldType) (hty : ∀ k, k < N → parseFieldDescriptor (T k).2.2.1 = some (ty k)) (hvc : vwCl[ci]? = some (Cn, T, N)) (fs : List Value) (hfs : ∀ j, j < N → defaultValue (ty j) = vp_V fs j) (hc : nc + 1 ≤ X.2.2.2.2.2.2.2.2.2.2.2.2.2.1.1) (hs : ns + N ≤ X.2.2.2.2.2.2.2.2.2.2.2.2.2.1.2) (g : ∀ q : Nat, GoN X nL (ws ++ [(q, .inr (ci, fs))]) (nc + 1) (ns + N) (pc + 3) lv (.ref q :: st)) : GoN X nL ws nc ns pc lv st := by
  obtain ⟨p, l, e, R, s, m, args, below, meth, c, A, a, z, Q⟩ := X
  intro H locs ls hP hD hS hl
  have hR := C.2.2.2.2.2.2.1
  have hK : va_K a.2.1 vwCl (tq_ty a) s := C.2.2.2.2.2.1
  exact va_new (ci := ci) C.1 C.2.1 C.2.2.2.2.1 hin ty hty C.2.2.2.1 (C.2.2.2.2.1 _ hcl) (C.2.2.2.2.1 _ hinst) (C.2.2.2.2.1 _ hini) hK hP hD hS C.2.2.2.2.2.2.2.1 hvc hfs (Nat.le_trans hc hR.2.2.1) (Nat.le_trans hs hR.2.2.2) hd (fun q H1 hP1 hD1 hS1 => g q H1 locs ls hP1 hD1 hS1 hl)
theorem gn_put (C : tq_D X cc nL own kr) {h ci : Nat} {fs : List Value} {Cn : String} {T : u_T} {N : Nat} {index : Nat} (hd : decode cc pc = .ok (.putfield index, 3)) (hcl : vwCl[ci]? = some (Cn, T, N)) (hin : ∀ w ∈ u_ws Cn T N, w ∈ tq_tbl) (ty0 : Nat → FieldType) (hty : ∀ k, k < N → parseFieldDescriptor (T k).2.2.1 = some (ty0 k)) (hnm : ∀ a, a < N → ∀ b, b < N → a ≠ b → (T a).2.1 ≠ (T b).2.1) (k : Nat) (hk : k < N) (hlink : Cond.fieldLink own index (T k).1 (T k).2.1 (T k).2.2.1 ∈ tq_tbl) (hfin : (T k).2.2.2 = false) {ty : FieldType} {v : Value} (hdc : parseFieldDescriptor (T k).2.2.1 = some ty) (hn : narrow ty v = v) (hfit : fits ty v = true) (hlen : k < fs.length) (fs' : List Value) (hfs : fs.set k v = fs') (g : GoN X nL ((h, .inr (ci, fs')) :: ws) nc ns (pc + 3) lv st) : GoN X nL ((h, .inr (ci, fs)) :: ws) nc ns pc lv (v :: .ref h :: st) := by
  obtain ⟨p, l, e, R, s, m, args, below, meth, c, A, a, z, Q⟩ := X
  subst hfs
  intro H locs ls hP hD hS hl
  exact va_put (D := a.2.1) (cl := vwCl) (ci := ci) (v := v) (ty := ty) (C := Cn) (T := T) (N := N) C.1 C.2.1 C.2.2.2.2.1 hin ty0 hty hnm C.2.2.2.1 C.2.2.2.2.2.1 hP hD hS 0 rfl hcl k hk (C.2.2.2.2.1 _ hlink) (fun _ h9 => h9) hfin hdc hn hfit hlen hd (fun H2 locs2 hP2 hD2 hS2 => g H2 locs2 ls hP2 hD2 hS2 hl)
theorem gn_putF (C : tq_D X cc nL own kr) {h ci : Nat} {fs : List Value} {Cn : String} {T : u_T} {N : Nat} {index : Nat} (hd : decode cc pc = .ok (.putfield index, 3)) (hcl : vwCl[ci]? = some (Cn, T, N)) (hin : ∀ w ∈ u_ws Cn T N, w ∈ tq_tbl) (ty0 : Nat → FieldType) (hty : ∀ k, k < N → parseFieldDescriptor (T k).2.2.1 = some (ty0 k)) (hnm : ∀ a, a < N → ∀ b, b < N → a ≠ b → (T a).2.1 ≠ (T b).2.1) (k : Nat) (hk : k < N) (hlink : Cond.fieldLink own index (T k).1 (T k).2.1 (T k).2.2.1 ∈ tq_tbl) (hfin : (T k).2.2.2 = true) (hdecl : (T k).1 = own) {ty : FieldType} {v : Value} (hdc : parseFieldDescriptor (T k).2.2.1 = some ty) (hn : narrow ty v = v) (hfit : fits ty v = true) (hlen : k < fs.length) (fs' : List Value) (hfs : fs.set k v = fs') (g : GoN X nL ((h, .inr (ci, fs')) :: ws) nc ns (pc + 3) lv st) : GoN X nL ((h, .inr (ci, fs)) :: ws) nc ns pc lv (v :: .ref h :: st) := by
  obtain ⟨p, l, e, R, s, m, args, below, meth, c, A, a, z, Q⟩ := X
  subst hfs
  intro H locs ls hP hD hS hl
  exact va_putF (D := a.2.1) (cl := vwCl) (ci := ci) (v := v) (ty := ty) (C := Cn) (T := T) (N := N) C.1 C.2.1 C.2.2.2.2.1 hin ty0 hty hnm C.2.2.2.1 C.2.2.2.2.2.1 hP hD hS 0 rfl hcl k hk (C.2.2.2.2.1 _ hlink) (fun _ h9 => h9) hfin C.2.2.2.2.2.2.2.2.1 hdecl hdc hn hfit hlen hd (fun H2 locs2 hP2 hD2 hS2 => g H2 locs2 ls hP2 hD2 hS2 hl)
theorem gn_get (C : tq_D X cc nL own kr) {h ci : Nat} {fs : List Value} {Cn : String} {T : u_T} {N : Nat} {index : Nat} (hd : decode cc pc = .ok (.getfield index, 3)) (hcl : vwCl[ci]? = some (Cn, T, N)) (hin : ∀ w ∈ u_ws Cn T N, w ∈ tq_tbl) (k : Nat) (hk : k < N) (hlink : Cond.fieldLink own index (T k).1 (T k).2.1 (T k).2.2.1 ∈ tq_tbl) {v : Value} (hv : fs[k]? = some v) (g : GoN X nL ((h, .inr (ci, fs)) :: ws) nc ns (pc + 3) lv (v :: st)) : GoN X nL ((h, .inr (ci, fs)) :: ws) nc ns pc lv (.ref h :: st) := by
  obtain ⟨p, l, e, R, s, m, args, below, meth, c, A, a, z, Q⟩ := X
  intro H locs ls hP hD hS hl
  exact va_get (D := a.2.1) (cl := vwCl) (ci := ci) (v := v) (C := Cn) (T := T) (N := N) C.1 C.2.1 C.2.2.2.2.1 hin C.2.2.2.1 C.2.2.2.2.2.1 hP 0 rfl hcl k hk (C.2.2.2.2.1 _ hlink) (fun _ h9 => h9) hv hd (g H locs ls hP hD hS hl)
/-- an object into an array of references, by their places -/
theorem gn_aast (C : tq_D X cc nL own kr) {b v n t ci : Nat} {r : vw_C} {vs : List Value} {f : Nat → Option Nat} {i : Int32} (hd : decode cc pc = .ok (.aastore, 1)) (q0 qk : Nat) (ha : ws[q0]? = some (b, .inl ((tq_la X).2.2 t, n, .inr (.inr (.inr (.inr f)))))) (ht : (tq_ty (tq_la X))[t]? = some ((tq_la X).2.2 t, .object r.1)) (hv : ws[qk]? = some (v, .inr (ci, vs))) (hvc : vwCl[ci]? = some r) (hin : vp_in i n) (ws' : va_W) (hws : ws.set q0 (b, .inl ((tq_la X).2.2 t, n, .inr (.inr (.inr (.inr (va_up f i.toNatClampNeg (some v))))))) = ws') (g : GoN X nL ws' nc ns (pc + 1) lv st) : GoN X nL ws nc ns pc lv (.ref v :: .int i :: .ref b :: st) := by
  obtain ⟨p, l, e, R, s, m, args, below, meth, c, A, a, z, Q⟩ := X
  subst hws
  intro H locs ls hP hD hS hl
  exact va_astq C.1 C.2.1 C.2.2.2.2.2.1 hP hD hS q0 t qk ci ha ht hv hvc hin hd (fun H2 locs2 hP2 hD2 hS2 => g H2 locs2 ls hP2 hD2 hS2 hl)
theorem gn_iast (C : tq_D X cc nL own kr) {b n : Nat} {f : Nat → Int32} {i x : Int32} (hd : decode cc pc = .ok (.iastore, 1)) (q0 : Nat) (ha : ws[q0]? = some (b, .inl ((tq_la X).2.2 0, n, .inl f))) (hin : vp_in i n) (ws' : va_W) (hws : ws.set q0 (b, .inl ((tq_la X).2.2 0, n, .inl (upd f i.toNatClampNeg x))) = ws') (g : GoN X nL ws' nc ns (pc + 1) lv st) : GoN X nL ws nc ns pc lv (.int x :: .int i :: .ref b :: st) := by
  obtain ⟨p, l, e, R, s, m, args, below, meth, c, A, a, z, Q⟩ := X
  subst hws
  intro H locs ls hP hD hS hl
  exact va_iast C.1 C.2.1 C.2.2.2.2.2.1 hP hD hS q0 0 ha rfl hin hd (fun H2 locs2 hP2 hD2 hS2 => g H2 locs2 ls hP2 hD2 hS2 hl)
end NH
