-- THE LAW MAKES ITS TWO OBJECTS
def tq_DL (X : tq_Cx) (cc : ByteArray) (nL : Nat) (own : String) (k : Nat) : Prop := match X with
  | (p, _, _, R, s, m, args, _, _, c, A, a, _, Q) => p.tables.exec = Jvm.exec ∧ c.code = cc ∧ c.maxLocals = nL ∧ s.vm.findClass own = some m.cls ∧ (∀ w ∈ tq_tbl, w.before args s = true) ∧ va_K a.2.1 vwCl (tq_ty a) s ∧ (k ≤ R.frames ∧ 100 * k ≤ R.locals ∧ Q.1.1 ≤ R.cells ∧ Q.1.2 ≤ R.slots) ∧ (∀ q, s.heap.size ≤ q → A q) ∧ tq_N s
section GL
variable {X : tq_Cx} {cc : ByteArray} {nL : Nat} {own : String} {kr : Nat} {ws : va_W} {nc ns : Nat} {pc : Nat} {lv : List (Nat × Value)} {st : List Value}
variable {y : MethodName} {cy : ByteArray} {n k mc ms ci : Nat} {df : List Value} {W1 : tq_La → Nat → (Nat → Nat) → va_W}
theorem gl_new (C : tq_DL X cc nL own kr) {Cn : String} {T : u_T} {N ci index : Nat} (hd : decode cc pc = .ok (.new index, 3)) (hcl : Cond.classLink own index Cn ∈ tq_tbl) (hinst : Cond.instantiable Cn N ∈ tq_tbl) (hini : Cond.initialized Cn ∈ tq_tbl) (hin : ∀ w ∈ u_ws Cn T N, w ∈ tq_tbl) (ty : Nat → FieldType) (hty : ∀ k, k < N → parseFieldDescriptor (T k).2.2.1 = some (ty k)) (hvc : vwCl[ci]? = some (Cn, T, N)) (fs : List Value) (hfs : ∀ j, j < N → defaultValue (ty j) = vp_V fs j) (hc : nc + 1 ≤ X.2.2.2.2.2.2.2.2.2.2.2.2.2.1.1) (hs : ns + N ≤ X.2.2.2.2.2.2.2.2.2.2.2.2.2.1.2) (g : ∀ q : Nat, GoN X nL (ws ++ [(q, .inr (ci, fs))]) (nc + 1) (ns + N) (pc + 3) lv (.ref q :: st)) : GoN X nL ws nc ns pc lv st := by
  obtain ⟨p, l, e, R, s, m, args, below, meth, c, A, a, z, Q⟩ := X
  intro H locs ls hP hD hS hl
  have hR := C.2.2.2.2.2.2.1
  have hK : va_K a.2.1 vwCl (tq_ty a) s := C.2.2.2.2.2.1
  exact va_new (ci := ci) C.1 C.2.1 C.2.2.2.2.1 hin ty hty C.2.2.2.1 (C.2.2.2.2.1 _ hcl) (C.2.2.2.2.1 _ hinst) (C.2.2.2.2.1 _ hini) hK hP hD hS C.2.2.2.2.2.2.2.1 hvc hfs (Nat.le_trans hc hR.2.2.1) (Nat.le_trans hs hR.2.2.2) hd (fun q H1 hP1 hD1 hS1 => g q H1 locs ls hP1 hD1 hS1 hl)
theorem gl_init (C : tq_DL X cc nL own kr) {index q : Nat} (hM : tq_MI y cy n k mc ms ci df W1) (hl : Cond.methodLink own index y ∈ tq_tbl) (hini : Cond.initialized y.cls ∈ tq_tbl) (hin : Cond.instanceMethod y ∈ tq_tbl) (hco : Cond.code y cy n none ∈ tq_tbl) (hd0 : y.cls ≠ "java/lang/invoke/MethodHandle" ∧ y.cls ≠ "java/lang/invoke/VarHandle" ∧ (parseMethodDescriptor y.desc).map (fun d => d.parameters.length) = some 0) (hy1 : y.name = "<init>") (hrk : tq_rk k kr n = true) (hrm : Nat.ble ((st.map fun v => v.category).sum) 8 = true) (hc : nc + mc ≤ X.2.2.2.2.2.2.2.2.2.2.2.2.2.1.1) (hs : ns + ms ≤ X.2.2.2.2.2.2.2.2.2.2.2.2.2.1.2) (hd : decode cc pc = .ok (.invokespecial index, 3)) (g : ∀ u, GoN X nL (ws ++ W1 (tq_la X) q u) (nc + mc) (ns + ms) (pc + 3) lv st) : GoN X nL (ws ++ [(q, .inr (ci, df))]) nc ns pc lv (.ref q :: st) := by
  obtain ⟨p, l, e, R, s, m, args, below, meth, c, A, a, z, Q⟩ := X
  intro H locs ls hP hD hS hlv
  have hR := C.2.2.2.2.2.2.1
  have hK : va_K a.2.1 vwCl (tq_ty a) s := C.2.2.2.2.2.1
  have hPc : va_P a.2.1 vwCl (tq_fr q ci df) H := va_P_mem.mpr (fun x hx => va_P_mem.mp hP x (List.mem_append_right _ hx))
  have hDc : va_D (fun _ => True) (tq_fr q ci df) := va_D_mem.mpr ⟨by simp, fun _ _ => trivial⟩
  have hF : ∀ x, va_A (tq_fr q ci df) H.size x → A x := by
    intro x hx
    rcases hx with ⟨k9, e9, h9⟩ | h9
    · exact (va_D_mem.mp hD).2 (x, e9) (List.mem_append_right _ (List.mem_of_getElem? h9))
    · exact C.2.2.2.2.2.2.2.1 x (Nat.le_trans hS.1 h9)
  have hGd : GoodIn tq_tbl (tq_ws y cy n none) := fun w hw => by
    rcases List.mem_cons.mp hw with rfl | h2
    · exact ⟨hco, good_of_word (List.mem_filter.mp hco).2⟩
    · exact tq_gT w h2
  refine va_callv (va_runI (As := []) (rest := st) ⟨C.1, C.2.1, C.2.2.1, C.2.2.2.1, C.2.2.2.2.1⟩ (hM l a q H.size) (cwI 0 C.2.2.2.2.1 hGd rfl rfl rfl (C.2.2.2.2.1 _ hini) (C.2.2.2.2.1 _ hl) (C.2.2.2.2.1 _ hin) hy1 hd0 ⟨Nat.le_trans (tq_rk_ok hrk).1 hR.1, Nat.le_trans (tq_rk_ok hrk).2 hR.2.1⟩) ⟨tq_blindI, fun U hU hW => ⟨rfl, by rw [hU], by rw [hU]; exact hPc, va_K.moved hW.alike hK, hDc, (C.2.2.2.2.2.2.2.2).warm hW⟩⟩ rfl rfl hlv.1 rfl (lv_room (Nat.le_of_ble_eq_true hrm)) hd ⟨Nat.le_trans hc hR.2.2.1, Nat.le_trans hs hR.2.2.2⟩) hS (fun x _ h => hF x h) hF (fun u t H1 locs1 ht hvm hw2 hB hz1 hk1 hS1 => ?_)
  obtain ⟨hP1, hD1⟩ := hB
  rw [ht] at hP1
  obtain ⟨hP2, hD2⟩ := va_joinC hP hD hk1 hF hP1 hD1
  exact g u H1 locs1 ls hP2 hD2 hS1 hlv
theorem gl_iconst {X : tq_Cx} {cc : ByteArray} {nL : Nat} {own : String} {kr : Nat} {ws : va_W} {nc ns : Nat} {pc : Nat} {lv : List (Nat × Value)} {st : List Value} {n : Int} {v : Int32} (C : tq_DL X cc nL own kr)  (hd : decode cc pc = .ok (.iconst n, 1)) (hv : Int32.ofInt n = v) (g : GoN X nL ws nc ns (pc + 1) lv (.int v :: st)) : GoN X nL ws nc ns pc lv (st) := by
  obtain ⟨p, l, e, R, s, m, args, below, meth, c, A, a, z, Q⟩ := X
  exact fun H locs ls hP hD hS hl => lv_iconst C.1 C.2.1 hd hv (g H locs ls hP hD hS hl)
theorem gl_dup {X : tq_Cx} {cc : ByteArray} {nL : Nat} {own : String} {kr : Nat} {ws : va_W} {nc ns : Nat} {pc : Nat} {lv : List (Nat × Value)} {st : List Value} {v : Value} (C : tq_DL X cc nL own kr)  (hd : decode cc pc = .ok (.dup, 1)) (hv : v.category = 1) (g : GoN X nL ws nc ns (pc + 1) lv (v :: v :: st)) : GoN X nL ws nc ns pc lv (v :: st) := by
  obtain ⟨p, l, e, R, s, m, args, below, meth, c, A, a, z, Q⟩ := X
  exact fun H locs ls hP hD hS hl => lv_dup C.1 C.2.1 hd hv (g H locs ls hP hD hS hl)
theorem gl_istore_n {X : tq_Cx} {cc : ByteArray} {nL : Nat} {own : String} {kr : Nat} {ws : va_W} {nc ns : Nat} {pc : Nat} {lv : List (Nat × Value)} {st : List Value} (C : tq_DL X cc nL own kr) {q : Fin 4} {i : Nat} {x : Int32} (hd : decode cc pc = .ok (.istore_n q, 1)) (lv' : List (Nat × Value)) (hi : (q : Nat) = i) (hn : i < nL) (hl' : (i, Value.int x) :: lv.filter (fun q => !(q.1 == i) && !(q.1 + 1 == i && q.2.category == 2)) = lv') (g : GoN X nL ws nc ns (pc + 1) lv' st) : GoN X nL ws nc ns pc lv (.int x :: st) := by
  obtain ⟨p, l, e, R, s, m, args, below, meth, c, A, a, z, Q⟩ := X
  exact fun H locs ls hP hD hS hl => lv_istore_n C.1 C.2.1 hd hi hl hn hl' (fun ls' hl2 => g H locs ls' hP hD hS hl2)
theorem gl_astore_n {X : tq_Cx} {cc : ByteArray} {nL : Nat} {own : String} {kr : Nat} {ws : va_W} {nc ns : Nat} {pc : Nat} {lv : List (Nat × Value)} {st : List Value} (C : tq_DL X cc nL own kr) {q : Fin 4} {i : Nat} {x : Nat} (hd : decode cc pc = .ok (.astore_n q, 1)) (lv' : List (Nat × Value)) (hi : (q : Nat) = i) (hn : i < nL) (hl' : (i, Value.ref x) :: lv.filter (fun q => !(q.1 == i) && !(q.1 + 1 == i && q.2.category == 2)) = lv') (g : GoN X nL ws nc ns (pc + 1) lv' st) : GoN X nL ws nc ns pc lv (.ref x :: st) := by
  obtain ⟨p, l, e, R, s, m, args, below, meth, c, A, a, z, Q⟩ := X
  exact fun H locs ls hP hD hS hl => lv_astore_n C.1 C.2.1 hd hi hl hn hl' (fun ls' hl2 => g H locs ls' hP hD hS hl2)
end GL
