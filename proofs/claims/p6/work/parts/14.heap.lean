-- FIELDS AND ARRAYS
section HP
variable {X : tq_Cx} {cc : ByteArray} {nL : Nat} {own : String} {kr : Nat} {S : tq_St} {pc : Nat} {lv : List (Nat × Value)} {st : List Value}
theorem go_get (C : tq_C X cc nL own kr) {o ci : Nat} (hq : (o, 0) ∈ tq_cids) {fs : List Value} (hc : tq_gc (tq_la X) S o 0 = .inr (ci, fs)) {Cn : String} {T : u_T} {N : Nat} (hcl : vwCl[ci]? = some (Cn, T, N)) (hin : ∀ w ∈ u_ws Cn T N, w ∈ tq_tbl) (k : Nat) (hk : k < N) {index : Nat} (hlink : Cond.fieldLink own index (T k).1 (T k).2.1 (T k).2.2.1 ∈ tq_tbl) {v : Value} (hv : fs[k]? = some v) (hd : decode cc pc = .ok (.getfield index, 3)) (g : Go X nL S (pc + 3) lv (v :: st)) : Go X nL S pc lv (.ref ((tq_la X).1 o 0) :: st) := by
  obtain ⟨p, l, e, R, s, m, args, below, meth, c, A, a, z, Q⟩ := X
  intro H locs ls hP hD hS hl
  obtain ⟨q0, -, hq0⟩ := tq_at a S hq
  have hc : tq_gc a S o 0 = .inr (ci, fs) := hc
  rw [hc] at hq0
  exact va_get (D := a.2.1) (cl := vwCl) (ci := ci) (v := v) (C := Cn) (T := T) (N := N) C.1 C.2.1 C.2.2.2.2.1 hin C.2.2.2.1 C.2.2.2.2.2.1 hP q0 hq0 hcl k hk (C.2.2.2.2.1 _ hlink) (fun _ h9 => h9) hv hd (g H locs ls hP hD hS hl)
theorem go_put (C : tq_C X cc nL own kr) {o ci : Nat} (hq : (o, 0) ∈ tq_cids) {fs : List Value} (hc : tq_gc (tq_la X) S o 0 = .inr (ci, fs)) {Cn : String} {T : u_T} {N : Nat} (hcl : vwCl[ci]? = some (Cn, T, N)) (hin : ∀ w ∈ u_ws Cn T N, w ∈ tq_tbl) (ty0 : Nat → FieldType) (hty : ∀ k, k < N → parseFieldDescriptor (T k).2.2.1 = some (ty0 k)) (hnm : ∀ a, a < N → ∀ b, b < N → a ≠ b → (T a).2.1 ≠ (T b).2.1) (k : Nat) (hk : k < N) {index : Nat} (hlink : Cond.fieldLink own index (T k).1 (T k).2.1 (T k).2.2.1 ∈ tq_tbl) (hfin : (T k).2.2.2 = false) {ty : FieldType} {v : Value} (hdc : parseFieldDescriptor (T k).2.2.1 = some ty) (hn : narrow ty v = v) (hfit : fits ty v = true) (hlen : k < fs.length) {S' : tq_St} (hx : tq_gc (tq_la X) S' o 0 = .inr (ci, fs.set k v)) (hne : ∀ o' r', (o', r') ∈ tq_cids → ¬ (o' = o ∧ r' = 0) → tq_gc (tq_la X) S' o' r' = tq_gc (tq_la X) S o' r') (hd : decode cc pc = .ok (.putfield index, 3)) (g : Go X nL S' (pc + 3) lv st) : Go X nL S pc lv (v :: .ref ((tq_la X).1 o 0) :: st) := by
  obtain ⟨p, l, e, R, s, m, args, below, meth, c, A, a, z, Q⟩ := X
  intro H locs ls hP hD hS hl
  obtain ⟨q0, hk0, hq0⟩ := tq_at a S hq
  have hc : tq_gc a S o 0 = .inr (ci, fs) := hc
  rw [hc] at hq0
  have hset := tq_set a S S' hk0 hx hne
  exact va_put (D := a.2.1) (cl := vwCl) (ci := ci) (v := v) (ty := ty) (C := Cn) (T := T) (N := N) C.1 C.2.1 C.2.2.2.2.1 hin ty0 hty hnm C.2.2.2.1 C.2.2.2.2.2.1 hP hD hS q0 hq0 hcl k hk (C.2.2.2.2.1 _ hlink) (fun _ h9 => h9) hfin hdc hn hfit hlen hd (fun H2 locs2 hP2 hD2 hS2 => g H2 locs2 ls (by rw [← hset]; exact hP2) (by rw [← hset]; exact hD2) hS2 hl)
theorem go_iald (C : tq_C X cc nL own kr) {o k n : Nat} (hq : (o, k + 1) ∈ tq_cids) (hc : tq_gc (tq_la X) S o (k + 1) = .inl ((tq_la X).2.2 0, n, .inl (S.2.1 o k))) {i : Int32} (hin : vp_in i n) (hd : decode cc pc = .ok (.iaload, 1)) (g : Go X nL S (pc + 1) lv (.int (S.2.1 o k i.toNatClampNeg) :: st)) : Go X nL S pc lv (.int i :: .ref ((tq_la X).1 o (k + 1)) :: st) := by
  obtain ⟨p, l, e, R, s, m, args, below, meth, c, A, a, z, Q⟩ := X
  intro H locs ls hP hD hS hl
  obtain ⟨q0, -, hq0⟩ := tq_at a S hq
  have hc : tq_gc a S o (k + 1) = _ := hc
  rw [hc] at hq0
  exact va_iald C.1 C.2.1 C.2.2.2.2.2.1 hP q0 0 hq0 rfl hin hd (g H locs ls hP hD hS hl)
theorem go_bald (C : tq_C X cc nL own kr) {o k n : Nat} (hq : (o, k + 1) ∈ tq_cids) (hc : tq_gc (tq_la X) S o (k + 1) = .inl ((tq_la X).2.2 1, n, .inl (S.2.1 o k))) {i : Int32} (hin : vp_in i n) (hd : decode cc pc = .ok (.baload, 1)) (g : Go X nL S (pc + 1) lv (.int (S.2.1 o k i.toNatClampNeg) :: st)) : Go X nL S pc lv (.int i :: .ref ((tq_la X).1 o (k + 1)) :: st) := by
  obtain ⟨p, l, e, R, s, m, args, below, meth, c, A, a, z, Q⟩ := X
  intro H locs ls hP hD hS hl
  obtain ⟨q0, -, hq0⟩ := tq_at a S hq
  have hc : tq_gc a S o (k + 1) = _ := hc
  rw [hc] at hq0
  exact va_bald C.1 C.2.1 C.2.2.2.2.2.1 hP q0 1 hq0 rfl hin hd (g H locs ls hP hD hS hl)
theorem go_zald (C : tq_C X cc nL own kr) {o k n : Nat} (hq : (o, k + 1) ∈ tq_cids) (hc : tq_gc (tq_la X) S o (k + 1) = .inl ((tq_la X).2.2 2, n, .inl (S.2.1 o k))) {i : Int32} (hin : vp_in i n) (hd : decode cc pc = .ok (.baload, 1)) (g : Go X nL S (pc + 1) lv (.int (S.2.1 o k i.toNatClampNeg) :: st)) : Go X nL S pc lv (.int i :: .ref ((tq_la X).1 o (k + 1)) :: st) := by
  obtain ⟨p, l, e, R, s, m, args, below, meth, c, A, a, z, Q⟩ := X
  intro H locs ls hP hD hS hl
  obtain ⟨q0, -, hq0⟩ := tq_at a S hq
  have hc : tq_gc a S o (k + 1) = _ := hc
  rw [hc] at hq0
  exact va_zald C.1 C.2.1 C.2.2.2.2.2.1 hP q0 2 hq0 rfl hin hd (g H locs ls hP hD hS hl)
theorem go_lald (C : tq_C X cc nL own kr) {i : Int32} (hin : vp_in i 5) (hd : decode cc pc = .ok (.laload, 1)) (g : Go X nL S (pc + 1) lv (.long (S.2.2.2 i.toNatClampNeg) :: st)) : Go X nL S pc lv (.int i :: .ref ((tq_la X).1 22 2) :: st) := by
  obtain ⟨p, l, e, R, s, m, args, below, meth, c, A, a, z, Q⟩ := X
  intro H locs ls hP hD hS hl
  obtain ⟨q0, -, hq0⟩ := tq_at a S (o := 22) (r := 2) (by decide +kernel)
  exact va_lald C.1 C.2.1 C.2.2.2.2.2.1 hP q0 3 hq0 rfl hin hd (g H locs ls hP hD hS hl)
theorem go_aald (C : tq_C X cc nL own kr) {o r n t b : Nat} {Cn : String} (hq : (o, r) ∈ tq_cids) (hc : tq_gc (tq_la X) S o r = .inl ((tq_la X).2.2 t, n, .inr (.inr (.inr (.inr (fun i => some ((tq_la X).1 (b + i) 0))))))) (ht : (tq_ty (tq_la X))[t]? = some ((tq_la X).2.2 t, .object Cn)) {i : Int32} (hin : vp_in i n) (hd : decode cc pc = .ok (.aaload, 1)) (g : Go X nL S (pc + 1) lv (.ref ((tq_la X).1 (b + i.toNatClampNeg) 0) :: st)) : Go X nL S pc lv (.int i :: .ref ((tq_la X).1 o r) :: st) := by
  obtain ⟨p, l, e, R, s, m, args, below, meth, c, A, a, z, Q⟩ := X
  intro H locs ls hP hD hS hl
  obtain ⟨q0, -, hq0⟩ := tq_at a S hq
  have hc : tq_gc a S o r = _ := hc
  rw [hc] at hq0
  exact va_aldq C.1 C.2.1 C.2.2.2.2.2.1 hP q0 t hq0 ht hin hd (g H locs ls hP hD hS hl)
theorem go_iast (C : tq_C X cc nL own kr) {o k n : Nat} (hq : (o, k + 1) ∈ tq_cids) (hc : ∀ S : tq_St, tq_gc (tq_la X) S o (k + 1) = .inl ((tq_la X).2.2 0, n, .inl (S.2.1 o k))) (hk : tq_arr o k) {i x : Int32} (hin : vp_in i n) (hd : decode cc pc = .ok (.iastore, 1)) (g : Go X nL (sA S o k i.toNatClampNeg x) (pc + 1) lv st) : Go X nL S pc lv (.int x :: .int i :: .ref ((tq_la X).1 o (k + 1)) :: st) := by
  obtain ⟨p, l, e, R, s, m, args, below, meth, c, A, a, z, Q⟩ := X
  intro H locs ls hP hD hS hl
  obtain ⟨q0, hk0, hq0⟩ := tq_at a S hq
  have hc : ∀ S : tq_St, tq_gc a S o (k + 1) = .inl (a.2.2 0, n, .inl (S.2.1 o k)) := hc
  rw [hc] at hq0
  have hset := tq_set a S (sA S o k i.toNatClampNeg x) (x := .inl (a.2.2 0, n, .inl (upd (S.2.1 o k) i.toNatClampNeg x))) hk0 (by rw [hc]; simp [sA, sC]) (tq_gcA a S hk _)
  exact va_iast C.1 C.2.1 C.2.2.2.2.2.1 hP hD hS q0 0 hq0 rfl hin hd (fun H2 locs2 hP2 hD2 hS2 => g H2 locs2 ls (by rw [← hset]; exact hP2) (by rw [← hset]; exact hD2) hS2 hl)
theorem go_bast (C : tq_C X cc nL own kr) {o k n : Nat} (hq : (o, k + 1) ∈ tq_cids) (hc : ∀ S : tq_St, tq_gc (tq_la X) S o (k + 1) = .inl ((tq_la X).2.2 1, n, .inl (S.2.1 o k))) (hk : tq_arr o k) {i x : Int32} (hin : vp_in i n) (hd : decode cc pc = .ok (.bastore, 1)) (g : Go X nL (sA S o k i.toNatClampNeg (vp_nar .byte x)) (pc + 1) lv st) : Go X nL S pc lv (.int x :: .int i :: .ref ((tq_la X).1 o (k + 1)) :: st) := by
  obtain ⟨p, l, e, R, s, m, args, below, meth, c, A, a, z, Q⟩ := X
  intro H locs ls hP hD hS hl
  obtain ⟨q0, hk0, hq0⟩ := tq_at a S hq
  have hc : ∀ S : tq_St, tq_gc a S o (k + 1) = .inl (a.2.2 1, n, .inl (S.2.1 o k)) := hc
  rw [hc] at hq0
  have hset := tq_set a S (sA S o k i.toNatClampNeg (vp_nar .byte x)) (x := .inl (a.2.2 1, n, .inl (upd (S.2.1 o k) i.toNatClampNeg (vp_nar .byte x)))) hk0 (by rw [hc]; simp [sA, sC]) (tq_gcA a S hk _)
  exact va_bast C.1 C.2.1 C.2.2.2.2.2.1 hP hD hS q0 1 hq0 rfl hin hd (fun H2 locs2 hP2 hD2 hS2 => g H2 locs2 ls (by rw [← hset]; exact hP2) (by rw [← hset]; exact hD2) hS2 hl)
theorem go_zast (C : tq_C X cc nL own kr) {o k n : Nat} (hq : (o, k + 1) ∈ tq_cids) (hc : ∀ S : tq_St, tq_gc (tq_la X) S o (k + 1) = .inl ((tq_la X).2.2 2, n, .inl (S.2.1 o k))) (hk : tq_arr o k) {i x : Int32} (hin : vp_in i n) (hd : decode cc pc = .ok (.bastore, 1)) (g : Go X nL (sA S o k i.toNatClampNeg (vp_nar .boolean x)) (pc + 1) lv st) : Go X nL S pc lv (.int x :: .int i :: .ref ((tq_la X).1 o (k + 1)) :: st) := by
  obtain ⟨p, l, e, R, s, m, args, below, meth, c, A, a, z, Q⟩ := X
  intro H locs ls hP hD hS hl
  obtain ⟨q0, hk0, hq0⟩ := tq_at a S hq
  have hc : ∀ S : tq_St, tq_gc a S o (k + 1) = .inl (a.2.2 2, n, .inl (S.2.1 o k)) := hc
  rw [hc] at hq0
  have hset := tq_set a S (sA S o k i.toNatClampNeg (vp_nar .boolean x)) (x := .inl (a.2.2 2, n, .inl (upd (S.2.1 o k) i.toNatClampNeg (vp_nar .boolean x)))) hk0 (by rw [hc]; simp [sA, sC]) (tq_gcA a S hk _)
  exact va_zast C.1 C.2.1 C.2.2.2.2.2.1 hP hD hS q0 2 hq0 rfl hin hd (fun H2 locs2 hP2 hD2 hS2 => g H2 locs2 ls (by rw [← hset]; exact hP2) (by rw [← hset]; exact hD2) hS2 hl)
theorem go_last (C : tq_C X cc nL own kr) {i : Int32} {x : Int64} (hin : vp_in i 5) (hd : decode cc pc = .ok (.lastore, 1)) (g : Go X nL (sG S i.toNatClampNeg x) (pc + 1) lv st) : Go X nL S pc lv (.long x :: .int i :: .ref ((tq_la X).1 22 2) :: st) := by
  obtain ⟨p, l, e, R, s, m, args, below, meth, c, A, a, z, Q⟩ := X
  intro H locs ls hP hD hS hl
  obtain ⟨q0, hk0, hq0⟩ := tq_at a S (o := 22) (r := 2) (by decide +kernel)
  have hset := tq_set a S (sG S i.toNatClampNeg x) (x := .inl (a.2.2 3, 5, .inr (.inl (vp_updL S.2.2.2 i.toNatClampNeg x)))) hk0 rfl (tq_gcG a S _ _)
  exact va_last C.1 C.2.1 C.2.2.2.2.2.1 hP hD hS q0 3 hq0 rfl hin hd (fun H2 locs2 hP2 hD2 hS2 => g H2 locs2 ls (by rw [← hset]; exact hP2) (by rw [← hset]; exact hD2) hS2 hl)
theorem go_copy (C : tq_C X cc nL own kr) (hkr : 1 ≤ kr) {o k n o2 k2 n2 : Nat} (hq : (o, k + 1) ∈ tq_cids) (hc : tq_gc (tq_la X) S o (k + 1) = .inl ((tq_la X).2.2 0, n, .inl (S.2.1 o k))) (hq2 : (o2, k2 + 1) ∈ tq_cids) (hc2 : ∀ S : tq_St, tq_gc (tq_la X) S o2 (k2 + 1) = .inl ((tq_la X).2.2 0, n2, .inl (S.2.1 o2 k2))) (hk2 : tq_arr o2 k2) {index : Nat} (hlink : Cond.methodLink own index arraycopyName ∈ tq_tbl) (hnat : Cond.native arraycopyName ∈ tq_tbl) (hstat : Cond.static arraycopyName ∈ tq_tbl) (hini : Cond.initialized "java/lang/System" ∈ tq_tbl) {ln : Int32} (h3 : ¬ ln < 0) (h4 : ln.toNatClampNeg ≤ n) (h5 : ln.toNatClampNeg ≤ n2) (hst : st = []) (hd : decode cc pc = .ok (.invokestatic index, 3)) (g : Go X nL (sC S o2 k2 (va_cpy (S.2.1 o k) (S.2.1 o2 k2) 0 0 ln.toNatClampNeg)) (pc + 3) lv st) : Go X nL S pc lv (.int ln :: .int 0 :: .ref ((tq_la X).1 o2 (k2 + 1)) :: .int 0 :: .ref ((tq_la X).1 o (k + 1)) :: st) := by
  subst hst
  obtain ⟨p, l, e, R, s, m, args, below, meth, c, A, a, z, Q⟩ := X
  intro H locs ls hP hD hS hl
  obtain ⟨q0, -, hq0⟩ := tq_at a S hq
  have hc : tq_gc a S o (k + 1) = _ := hc
  rw [hc] at hq0
  obtain ⟨q1, hk1, hq1⟩ := tq_at a S hq2
  have hc2 : ∀ S : tq_St, tq_gc a S o2 (k2 + 1) = .inl (a.2.2 0, n2, .inl (S.2.1 o2 k2)) := hc2
  rw [hc2] at hq1
  have hset := tq_set a S (sC S o2 k2 (va_cpy (S.2.1 o k) (S.2.1 o2 k2) 0 0 ln.toNatClampNeg)) (x := .inl (a.2.2 0, n2, .inl (va_cpy (S.2.1 o k) (S.2.1 o2 k2) 0 0 ln.toNatClampNeg))) hk1 (by rw [hc2]; simp [sC]) (tq_gcA a S hk2 _)
  have hR := C.2.2.2.2.2.2.2.1
  refine va_copyi (ty := .int) C.1 C.2.1 (by rw [hl.1]; exact C.2.2.1) C.2.2.2.1 (C.2.2.2.2.1 _ hlink) (C.2.2.2.2.1 _ hnat) (C.2.2.2.2.1 _ hstat) (C.2.2.2.2.1 _ hini) C.2.2.2.2.2.1 hP hD hS q0 q1 0 0 hq0 hq1 rfl rfl rfl (sp := 0) (dp := 0) (n := ln) (by decide) (by decide) h3 (by rw [show (0 : Int32).toNatClampNeg = 0 by decide]; omega) (by rw [show (0 : Int32).toNatClampNeg = 0 by decide]; omega) (fun _ _ => rfl) ?_ ?_ hd (fun H2 locs2 hP2 hD2 hS2 => g H2 locs2 ls (by rw [← hset]; exact hP2) (by rw [← hset]; exact hD2) hS2 hl)
  · exact Nat.le_trans hkr hR.1
  · refine Nat.le_trans ?_ hR.2.1
    have h9 : (([] : List Value).map fun v => v.category).sum + (nativeFrameWords "java/lang/System" "arraycopy" 5 + 11) ≤ 100 := by decide +kernel
    omega
theorem go_max (C : tq_C X cc nL own kr) (hkr : 1 ≤ kr) {index : Nat} (hlink : Cond.methodLink own index Lib.Math.max.name ∈ tq_tbl) (hstat : Cond.static Lib.Math.max.name ∈ tq_tbl) (hini : Cond.initialized "java/lang/Math" ∈ tq_tbl) (hcode : Cond.code Lib.Math.max.name Lib.Math.max.code 2 (some .int) ∈ tq_tbl) {x y : Int32} (hst : (st.map fun v => v.category).sum ≤ 80) (hd : decode cc pc = .ok (.invokestatic index, 3)) (g : Go X nL S (pc + 3) lv (.int (if x < y then y else x) :: st)) : Go X nL S pc lv (.int y :: .int x :: st) := by
  obtain ⟨p, l, e, R, s, m, args, below, meth, c, A, a, z, Q⟩ := X
  intro H locs ls hP hD hS hl
  have hR := C.2.2.2.2.2.2.2.1
  exact va_mmax C.1 C.2.1 (by rw [hl.1]; exact C.2.2.1) C.2.2.2.1 (C.2.2.2.2.1 _ hlink) (C.2.2.2.2.1 _ hstat) (C.2.2.2.2.1 _ hini) (C.2.2.2.2.1 _ hcode) (Nat.le_trans hkr hR.1) (Nat.le_trans (by omega) hR.2.1) hR.2.2.1 hR.2.2.2 hd (g H locs ls hP hD hS hl)
theorem go_min (C : tq_C X cc nL own kr) (hkr : 1 ≤ kr) {index : Nat} (hlink : Cond.methodLink own index Lib.Math.min.name ∈ tq_tbl) (hstat : Cond.static Lib.Math.min.name ∈ tq_tbl) (hini : Cond.initialized "java/lang/Math" ∈ tq_tbl) (hcode : Cond.code Lib.Math.min.name Lib.Math.min.code 2 (some .int) ∈ tq_tbl) {x y : Int32} (hst : (st.map fun v => v.category).sum ≤ 80) (hd : decode cc pc = .ok (.invokestatic index, 3)) (g : Go X nL S (pc + 3) lv (.int (if y < x then y else x) :: st)) : Go X nL S pc lv (.int y :: .int x :: st) := by
  obtain ⟨p, l, e, R, s, m, args, below, meth, c, A, a, z, Q⟩ := X
  intro H locs ls hP hD hS hl
  have hR := C.2.2.2.2.2.2.2.1
  exact va_mmin C.1 C.2.1 (by rw [hl.1]; exact C.2.2.1) C.2.2.2.1 (C.2.2.2.2.1 _ hlink) (C.2.2.2.2.1 _ hstat) (C.2.2.2.2.1 _ hini) (C.2.2.2.2.1 _ hcode) (Nat.le_trans hkr hR.1) (Nat.le_trans (by omega) hR.2.1) hR.2.2.1 hR.2.2.2 hd (g H locs ls hP hD hS hl)
theorem go_brims (C : tq_C X cc nL RX1 kr) (hd : decode cc pc = .ok (.getstatic 72, 3)) (g : Go X nL S (pc + 3) lv (.ref (tq_zl X).1 :: st)) : Go X nL S pc lv st := by
  obtain ⟨p, l, e, R, s, m, args, below, meth, c, A, a, z, Q⟩ := X
  intro H locs ls hP hD hS hl
  have hZ : tq_Z z A s s.heap := C.2.2.2.2.2.2.1
  exact va_getsN C.1 C.2.1 hZ.1 hS C.2.2.2.1 (va_Nw.use rfl hZ.2.2.1) (fun _ h9 => h9) hd (g H locs ls hP hD hS hl)
theorem go_brald (C : tq_C X cc nL own kr) {i : Int32} (hin : vp_in i 4) (hd : decode cc pc = .ok (.iaload, 1)) (g : Go X nL S (pc + 1) lv (.int (tq_brL.getD i.toNatClampNeg 0) :: st)) : Go X nL S pc lv (.int i :: .ref (tq_zl X).1 :: st) := by
  obtain ⟨p, l, e, R, s, m, args, below, meth, c, A, a, z, Q⟩ := X
  intro H locs ls hP hD hS hl
  have hZ : tq_Z z A s s.heap := C.2.2.2.2.2.2.1
  exact va_ti C.1 C.2.1 hZ.2.1 hS hin rfl hd (g H locs ls hP hD hS hl)
end HP
