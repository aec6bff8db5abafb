theorem tq_same {D : va_G} {cl : List vw_C} {tys : List (ClassId × FieldType)} {s : State} {cA c1 : ClassId} {ty : FieldType} {t : Nat} (h : va_K D cl (tys ++ [(cA, ty)]) s) (ht : tys[t]? = some (c1, ty)) : cA = c1 := by
  have hl : t < tys.length := (List.getElem?_eq_some_iff.mp ht).1
  have h1 := (h.2 t (c1, ty) (by rw [List.getElem?_append_left hl]; exact ht)).2
  have h2 := (h.2 tys.length (cA, ty) (by simp)).2
  have e : ∀ c : ClassId, va_RA s c ty → s.vm.findClass ("[" ++ ty.toString) = some c := by
    intro c hc
    cases ty with
    | object C => obtain ⟨kA, comp, -, -, -, h4⟩ := hc; exact h4
    | _ => exact hc
  exact Option.some.inj ((e cA h2).symm.trans (e c1 h1))
section NH
variable {X : tq_Cx} {cc : ByteArray} {nL : Nat} {own : String} {kr : Nat} {ws : va_W} {sz nc ns : Nat} {pc : Nat} {lv : List (Nat × Value)} {st : List Value}
theorem gn_objInit (C : tq_D X cc nL own kr) (hkr : 1 ≤ kr) {idx b : Nat} (hl : Cond.methodLink own idx Lib.objectInit ∈ lw_tbl) (hin : Cond.instanceMethod Lib.objectInit ∈ lw_tbl) (hco : Cond.code Lib.objectInit ⟨#[0xb1]⟩ 1 none ∈ lw_tbl) (hst : st = []) (hd : decode cc pc = .ok (.invokespecial idx, 3)) (g : GoN X nL ws sz nc ns (pc + 3) lv []) : GoN X nL ws sz nc ns pc lv (.ref b :: st) := by
  subst hst
  obtain ⟨p, l, e, R, s, m, args, below, meth, c, A, a, z, Q⟩ := X
  intro H locs ls hz hP hD hS hlv
  have hR := C.2.2.2.2.2.2.1
  exact W.objInit C.1 C.2.1 C.2.2.2.1 (C.2.2.2.2.1 _ hl) (C.2.2.2.2.1 _ hin) (C.2.2.2.2.1 _ hco) (g := F0 m pc ls [.ref b]) rfl (by rw [C.2.2.1]; exact hlv.1) rfl hd (Nat.le_trans hkr hR.1) (Nat.le_trans (by show 12 ≤ 100 * kr; omega) hR.2.1) (g H locs ls hz hP hD hS hlv)
theorem gn_newa (C : tq_D X cc nL own kr) {atype : ArrayType} {ty : FieldType} (hty : newarray.typeOf atype = ty) (harr : Cond.arrayClass (newarray.typeOf atype) ∈ lw_tbl) (t : Nat) (ht : (tq_ty (tq_la X))[t]? = some ((tq_la X).2.2 t, ty)) {n : Int32} {N : Nat} {a0 : vp_A} (ha : ∀ cA : ClassId, vp_cell cA a0 = arrV cA N (fun _ => defaultValue ty)) (hn : ¬ n < 0) (hN : n.toNatClampNeg = N) (hby : N * componentBytes ty ≤ 536870912) (hc : nc + 1 ≤ X.2.2.2.2.2.2.2.2.2.2.2.2.2.1.1) (hs : ns + N ≤ X.2.2.2.2.2.2.2.2.2.2.2.2.2.1.2) (hd : decode cc pc = .ok (.newarray atype, 2)) (g : GoN X nL (ws ++ [(sz, .inl ((tq_la X).2.2 t, a0))]) (sz + 1) (nc + 1) (ns + N) (pc + 2) lv (.ref sz :: st)) : GoN X nL ws sz nc ns pc lv (.int n :: st) := by
  obtain ⟨p, l, e, R, s, m, args, below, meth, c, A, a, z, Q⟩ := X
  intro H locs ls hz hP hD hS hl
  have hR := C.2.2.2.2.2.2.1
  have hK : va_K a.2.1 vwCl (tq_ty a) s := C.2.2.2.2.2.1
  subst hty
  refine va_newaK C.1 C.2.1 (C.2.2.2.2.1 _ harr) rfl hd rfl hn hN hby (Nat.le_trans hc hR.2.2.1) (Nat.le_trans hs hR.2.2.2) hz fun H1 cA e1 z1 o1 hAr hNm => ?_
  have hk : ∀ (k : Nat) (x : Nat × va_E), ws[k]? = some x → H1[x.1]? = H[x.1]? := fun k x hx => o1 x.1 (by rw [← hz]; exact (hP k x hx).lt)
  have hcA : cA = a.2.2 t := by
    have h1 : va_RA s (a.2.2 t) (newarray.typeOf atype) := (hK.2 t _ ht).2
    have h2 : s.vm.findClass ("[" ++ (newarray.typeOf atype).toString) = some (a.2.2 t) := by cases atype <;> exact h1
    exact Option.some.inj (hNm.symm.trans h2)
  subst hcA
  subst hz
  refine g H1 locs ls z1 ((hP.kept hk).app (fun k x hx => ?_)) (hD.push hP rfl (C.2.2.2.2.2.2.2.1 _ hS.1)) ⟨Nat.le_trans hS.1 (by omega), fun x h1 h2 => (o1 x (Nat.lt_of_lt_of_le h1 hS.1)).trans (hS.2.1 x h1 h2), hS.2.2⟩ hl
  have hz : k < 1 := (List.getElem?_eq_some_iff.mp hx).1
  rw [show k = 0 by omega] at hx
  cases hx
  show H1[H.size]? = some (vp_cell _ _)
  rw [ha]
  exact e1
theorem gn_anew (C : tq_D X cc nL own kr) {Cn : String} {index : Nat} (hcl : Cond.classLink own index Cn ∈ lw_tbl) (hov : Cond.arrayOver (.object Cn) ∈ lw_tbl) (t : Nat) (ht : (tq_ty (tq_la X))[t]? = some ((tq_la X).2.2 t, .object Cn)) {n : Int32} {N : Nat} (hn : ¬ n < 0) (hN : n.toNatClampNeg = N) (hby : N * 4 ≤ 536870912) (hc : nc + 1 ≤ X.2.2.2.2.2.2.2.2.2.2.2.2.2.1.1) (hs : ns + N ≤ X.2.2.2.2.2.2.2.2.2.2.2.2.2.1.2) (hd : decode cc pc = .ok (.anewarray index, 3)) (g : GoN X nL (ws ++ [(sz, .inl ((tq_la X).2.2 t, N, .inr (.inr (.inr (.inr (fun _ => none))))))]) (sz + 1) (nc + 1) (ns + N) (pc + 3) lv (.ref sz :: st)) : GoN X nL ws sz nc ns pc lv (.int n :: st) := by
  obtain ⟨p, l, e, R, s, m, args, below, meth, c, A, a, z, Q⟩ := X
  intro H locs ls hz hP hD hS hl
  have hR := C.2.2.2.2.2.2.1
  have hK : va_K a.2.1 vwCl (tq_ty a) s := C.2.2.2.2.2.1
  subst hN
  refine W.anew C.1 C.2.1 C.2.2.2.1 (C.2.2.2.2.1 _ hcl) (C.2.2.2.2.1 _ hov) (g := F0 m pc ls (.int n :: st)) rfl hd rfl hn hby (Nat.le_trans hc hR.2.2.1) (Nat.le_trans hs hR.2.2.2) fun cA kA comp f1 f2 f3 f4 => ?_
  generalize hH1 : H.push ({ cls := cA, slots := Array.replicate n.toNatClampNeg .null, vm := .none } : Cell) = H1
  have z1 : H1.size = H.size + 1 := by rw [← hH1, Array.size_push]
  have e1 : H1[H.size]? = some (arrV cA n.toNatClampNeg (fun _ => .null)) := by rw [← hH1, Array.getElem?_push_size, ← arrV_new]
  have o1 : ∀ q : Nat, q < H.size → H1[q]? = H[q]? := fun q hq => by rw [← hH1, Array.getElem?_push, if_neg (Nat.ne_of_lt hq)]
  have hk : ∀ (k : Nat) (x : Nat × va_E), ws[k]? = some x → H1[x.1]? = H[x.1]? := fun k x hx => o1 x.1 ((hP k x hx).lt)
  have hcA : cA = a.2.2 t := by
    obtain ⟨kB, cB, -, -, -, h4⟩ := (hK.2 t _ ht).2
    exact Option.some.inj (f1.symm.trans h4)
  subst hcA
  subst hz
  refine g H1 locs ls z1 ((hP.kept hk).app (fun k x hx => ?_)) (hD.push hP rfl (C.2.2.2.2.2.2.2.1 _ hS.1)) ⟨Nat.le_trans hS.1 (by omega), fun x h1 h2 => (o1 x (Nat.lt_of_lt_of_le h1 hS.1)).trans (hS.2.1 x h1 h2), hS.2.2⟩ hl
  have hz : k < 1 := (List.getElem?_eq_some_iff.mp hx).1
  rw [show k = 0 by omega] at hx
  cases hx
  exact e1
end NH
