-- STATIC CALLS, THE CONSTANT TEXTS
section CS
variable {X : tq_Cx} {cc : ByteArray} {nL : Nat} {own : String} {kr : Nat} {S : tq_St} {pc : Nat} {lv : List (Nat × Value)} {st st0 : List Value}
variable {y : MethodName} {cy : ByteArray} {n np k : Nat} {ret : Option FieldType} {av : tq_La → tq_Zl → List Value}
theorem go_cSi {K : Int32 → tq_St → Prop} (C : tq_C X cc nL own kr) {index : Nat} {As : List Value} (hw : tq_Wst own index y cy n ret np) (hM : tq_Mi y cy n ret k av S K) (hav : av (tq_la X) (tq_zl X) = As) (hst : st0 = As.reverse ++ st) (hn : As.length = np) (hrk : tq_rk k kr n = true) (hrm : Nat.ble ((st.map fun v => v.category).sum) 8 = true) (hd : decode cc pc = .ok (.invokestatic index, 3)) (g : ∀ r S', K r S' → Go X nL S' (pc + 3) lv (.int r :: st)) : Go X nL S pc lv st0 := by
  obtain ⟨p, l, e, R, s, m, args, below, meth, c, A, a, z, Q⟩ := X
  intro H locs ls hP hD hS hl
  have hR := C.2.2.2.2.2.2.2.1
  have hav : av a z = As := hav
  have hM := hM l A a z
  rw [hav] at hM
  refine va_calli (va_runS (As := As) (rest := st) ⟨C.1, C.2.1, C.2.2.1, C.2.2.2.1, C.2.2.2.2.1⟩ hM (va_cwS np C.2.2.2.2.1 hw.1 rfl rfl rfl hw.2 ⟨Nat.le_trans (tq_rk_ok hrk).1 hR.1, Nat.le_trans (tq_rk_ok hrk).2 hR.2.1⟩) ⟨tq_blind, fun U hU hW => ⟨rfl, by rw [hU]; exact hP, va_K.moved hW.alike C.2.2.2.2.2.1, hD, (C.2.2.2.2.2.2.1).to hS hU hW⟩⟩ rfl hn hl.1 hst (lv_room (Nat.le_of_ble_eq_true hrm)) hd ⟨hR.2.2.1, hR.2.2.2⟩) hS (fun q _ h => h) (fun q h => h) (fun r u t H1 locs1 ht hvm hw2 hB hz1 hk1 hS1 => ?_)
  obtain ⟨hP1, hD1⟩ := hB
  rw [ht] at hP1
  exact g r u hw2 H1 locs1 ls hP1 hD1 hS1 hl
theorem go_cSl {K : Int64 → tq_St → Prop} (C : tq_C X cc nL own kr) {index : Nat} {As : List Value} (hw : tq_Wst own index y cy n ret np) (hM : tq_Ml y cy n ret k av S K) (hav : av (tq_la X) (tq_zl X) = As) (hst : st0 = As.reverse ++ st) (hn : As.length = np) (hrk : tq_rk k kr n = true) (hrm : Nat.ble ((st.map fun v => v.category).sum) 8 = true) (hd : decode cc pc = .ok (.invokestatic index, 3)) (g : ∀ r S', K r S' → Go X nL S' (pc + 3) lv (.long r :: st)) : Go X nL S pc lv st0 := by
  obtain ⟨p, l, e, R, s, m, args, below, meth, c, A, a, z, Q⟩ := X
  intro H locs ls hP hD hS hl
  have hR := C.2.2.2.2.2.2.2.1
  have hav : av a z = As := hav
  have hM := hM l A a z
  rw [hav] at hM
  refine va_calll (va_runS (As := As) (rest := st) ⟨C.1, C.2.1, C.2.2.1, C.2.2.2.1, C.2.2.2.2.1⟩ hM (va_cwS np C.2.2.2.2.1 hw.1 rfl rfl rfl hw.2 ⟨Nat.le_trans (tq_rk_ok hrk).1 hR.1, Nat.le_trans (tq_rk_ok hrk).2 hR.2.1⟩) ⟨tq_blind, fun U hU hW => ⟨rfl, by rw [hU]; exact hP, va_K.moved hW.alike C.2.2.2.2.2.1, hD, (C.2.2.2.2.2.2.1).to hS hU hW⟩⟩ rfl hn hl.1 hst (lv_room (Nat.le_of_ble_eq_true hrm)) hd ⟨hR.2.2.1, hR.2.2.2⟩) hS (fun q _ h => h) (fun q h => h) (fun r u t H1 locs1 ht hvm hw2 hB hz1 hk1 hS1 => ?_)
  obtain ⟨hP1, hD1⟩ := hB
  rw [ht] at hP1
  exact g r u hw2 H1 locs1 ls hP1 hD1 hS1 hl
theorem go_cSv {K : tq_St → Prop} (C : tq_C X cc nL own kr) {index : Nat} {As : List Value} (hw : tq_Wst own index y cy n ret np) (hM : tq_Mv y cy n ret k av S K) (hav : av (tq_la X) (tq_zl X) = As) (hst : st0 = As.reverse ++ st) (hn : As.length = np) (hrk : tq_rk k kr n = true) (hrm : Nat.ble ((st.map fun v => v.category).sum) 8 = true) (hd : decode cc pc = .ok (.invokestatic index, 3)) (g : ∀  S', K  S' → Go X nL S' (pc + 3) lv (st)) : Go X nL S pc lv st0 := by
  obtain ⟨p, l, e, R, s, m, args, below, meth, c, A, a, z, Q⟩ := X
  intro H locs ls hP hD hS hl
  have hR := C.2.2.2.2.2.2.2.1
  have hav : av a z = As := hav
  have hM := hM l A a z
  rw [hav] at hM
  refine va_callv (va_runS (As := As) (rest := st) ⟨C.1, C.2.1, C.2.2.1, C.2.2.2.1, C.2.2.2.2.1⟩ hM (va_cwS np C.2.2.2.2.1 hw.1 rfl rfl rfl hw.2 ⟨Nat.le_trans (tq_rk_ok hrk).1 hR.1, Nat.le_trans (tq_rk_ok hrk).2 hR.2.1⟩) ⟨tq_blind, fun U hU hW => ⟨rfl, by rw [hU]; exact hP, va_K.moved hW.alike C.2.2.2.2.2.1, hD, (C.2.2.2.2.2.2.1).to hS hU hW⟩⟩ rfl hn hl.1 hst (lv_room (Nat.le_of_ble_eq_true hrm)) hd ⟨hR.2.2.1, hR.2.2.2⟩) hS (fun q _ h => h) (fun q h => h) (fun  u t H1 locs1 ht hvm hw2 hB hz1 hk1 hS1 => ?_)
  obtain ⟨hP1, hD1⟩ := hB
  rw [ht] at hP1
  exact g  u hw2 H1 locs1 ls hP1 hD1 hS1 hl
theorem go_cSr {K : Nat → tq_St → Prop} (C : tq_C X cc nL own kr) {index : Nat} {As : List Value} (hw : tq_Wst own index y cy n ret np) (hM : tq_Mr y cy n ret k av S K) (hav : av (tq_la X) (tq_zl X) = As) (hst : st0 = As.reverse ++ st) (hn : As.length = np) (hrk : tq_rk k kr n = true) (hrm : Nat.ble ((st.map fun v => v.category).sum) 8 = true) (hd : decode cc pc = .ok (.invokestatic index, 3)) (g : ∀ i S', K i S' → Go X nL S' (pc + 3) lv (.ref ((tq_zl X).2.1 i) :: st)) : Go X nL S pc lv st0 := by
  obtain ⟨p, l, e, R, s, m, args, below, meth, c, A, a, z, Q⟩ := X
  intro H locs ls hP hD hS hl
  have hR := C.2.2.2.2.2.2.2.1
  have hav : av a z = As := hav
  have hM := hM l A a z
  rw [hav] at hM
  refine va_callr (va_runS (As := As) (rest := st) ⟨C.1, C.2.1, C.2.2.1, C.2.2.2.1, C.2.2.2.2.1⟩ hM (va_cwS np C.2.2.2.2.1 hw.1 rfl rfl rfl hw.2 ⟨Nat.le_trans (tq_rk_ok hrk).1 hR.1, Nat.le_trans (tq_rk_ok hrk).2 hR.2.1⟩) ⟨tq_blind, fun U hU hW => ⟨rfl, by rw [hU]; exact hP, va_K.moved hW.alike C.2.2.2.2.2.1, hD, (C.2.2.2.2.2.2.1).to hS hU hW⟩⟩ rfl hn hl.1 hst (lv_room (Nat.le_of_ble_eq_true hrm)) hd ⟨hR.2.2.1, hR.2.2.2⟩) hS (fun q _ h => h) (fun q h => h) (fun u ra t H1 locs1 ht hvm hw2 hB hz1 hk1 hS1 => ?_)
  obtain ⟨hra, hP1, hD1⟩ := hB
  rw [ht] at hP1
  subst hra
  exact g u.1 u.2 hw2 H1 locs1 ls hP1 hD1 hS1 hl
theorem tq_mkR {K : Nat → tq_St → Prop} {C9 : String} (hy : plainName y.cls = true) (hlen : ∀ a z, (lg_sl (av a z)).length ≤ n) (h : ∀ X : tq_Cx, tq_C X cc n y.cls k → tq_Rr X cc n K → Go X n S 0 (lv_args 0 (av (tq_la X) (tq_zl X))) []) : tq_Mr y cc n (some (.object C9)) k av S K := by
  refine tq_mk (Qc := fun a z A => va_Qr (fun u : Nat × tq_St => K u.1 u.2) (fun u q t => q = z.2.1 u.1 ∧ tq_Post a A u.2 t) A) hy hlen ?_
  rintro ⟨p, l, e, R, s, m, args, below, meth, c, A, a, z, Q⟩ C ⟨s', args', below', h1, h2, h3, h4, h5⟩
  refine h _ C ?_
  intro r S' pc lv hd hK H locs ls hP hD hS hl
  have hr : meth.sig.returnType = some (.object C9) := h3
  have hQ : Q = ((0, 0), MQ below' (va_Qr (fun u : Nat × tq_St => K u.1 u.2) (fun u q t => q = z.2.1 u.1 ∧ tq_Post a A u.2 t) A) args' s' 0 0 A) := h4
  have e1 : s = s' := h1
  have e2 : args = args' := h2
  have e3 : below = below' := h5
  subst e1; subst e2; subst e3; subst hQ
  exact W.aret C.1 C.2.1 hr (Or.inl ⟨_, rfl⟩) (Or.inr ⟨_, rfl⟩) (fun t ht hW => ⟨⟨(r, S'), z.2.1 r, rfl, hK, rfl, by rw [tq_Post, ht]; exact ⟨hP, hD⟩⟩, hS.F ht⟩) hS.2.2 hd C.2.2.2.2.2.2.2.2
theorem go_ldcS (C : tq_C X cc nL RX5 kr) (i : Nat) (hi : i < 7) {index : Nat} (hx : (tq_txL.getD i (0, "")).1 = index) (hd : decode cc pc = .ok (.ldc index, 2)) (g : Go X nL S (pc + 2) lv (.ref ((tq_zl X).2.1 i) :: st)) : Go X nL S pc lv st := by
  obtain ⟨p, l, e, R, s, m, args, below, meth, c, A, a, z, Q⟩ := X
  subst hx
  intro H locs ls hP hD hS hl
  have hZ : tq_Z z A s s.heap := C.2.2.2.2.2.2.1
  exact va_ldcS C.1 C.2.1 C.2.2.2.1 (hZ.2.2.2.2.1 i hi) hd (g H locs ls hP hD hS hl)
theorem tq_recS (C : tq_C X cc nL own kr) {i : Nat} (hi : i < 7) : tq_rec X S ((tq_zl X).2.1 i) "java/lang/String" := by
  obtain ⟨p, l, e, R, s, m, args, below, meth, c, A, a, z, Q⟩ := X
  intro H locs hP hS
  have hZ : tq_Z z A s s.heap := C.2.2.2.2.2.2.1
  exact vk_recv hZ.2.2.2.1 hi hS
theorem go_strV (C : tq_C X cc nL own kr) {i : Nat} (hi : i < 7) {index : Nat} (hlink : Cond.fieldLink own index "java/lang/String" "value" "[B" ∈ tq_tbl) (hd : decode cc pc = .ok (.getfield index, 3)) (g : Go X nL S (pc + 3) lv (.ref ((tq_zl X).2.2.1 i) :: st)) : Go X nL S pc lv (.ref ((tq_zl X).2.1 i) :: st) := by
  obtain ⟨p, l, e, R, s, m, args, below, meth, c, A, a, z, Q⟩ := X
  intro H locs ls hP hD hS hl
  have hZ : tq_Z z A s s.heap := C.2.2.2.2.2.2.1
  exact vk_getf C.1 C.2.1 (hZ.2.2.2.1.1 i hi).2.2.1 hS C.2.2.2.1 (C.2.2.2.2.1 _ hlink) (fun _ h9 => h9) hd (g H locs ls hP hD hS hl)
theorem go_strC (C : tq_C X cc nL own kr) {i : Nat} (hi : i < 7) {index : Nat} (hlink : Cond.fieldLink own index "java/lang/String" "coder" "B" ∈ tq_tbl) (hd : decode cc pc = .ok (.getfield index, 3)) (g : Go X nL S (pc + 3) lv (.int 0 :: st)) : Go X nL S pc lv (.ref ((tq_zl X).2.1 i) :: st) := by
  obtain ⟨p, l, e, R, s, m, args, below, meth, c, A, a, z, Q⟩ := X
  intro H locs ls hP hD hS hl
  have hZ : tq_Z z A s s.heap := C.2.2.2.2.2.2.1
  exact vk_getf C.1 C.2.1 (hZ.2.2.2.1.1 i hi).2.1 hS C.2.2.2.1 (C.2.2.2.2.1 _ hlink) (fun _ h9 => h9) hd (g H locs ls hP hD hS hl)
theorem go_strK (C : tq_C X cc nL own kr) {index : Nat} (hlink : Cond.fieldLink own index "java/lang/String" "COMPACT_STRINGS" "Z" ∈ tq_tbl) (hd : decode cc pc = .ok (.getstatic index, 3)) (g : Go X nL S (pc + 3) lv (.int 1 :: st)) : Go X nL S pc lv st := by
  obtain ⟨p, l, e, R, s, m, args, below, meth, c, A, a, z, Q⟩ := X
  intro H locs ls hP hD hS hl
  have hZ : tq_Z z A s s.heap := C.2.2.2.2.2.2.1
  exact va_gets C.1 C.2.1 hZ.2.2.2.2.2.1 hS C.2.2.2.1 (C.2.2.2.2.1 _ hlink) (fun _ h9 => h9) hd (g H locs ls hP hD hS hl)
theorem go_strN (C : tq_C X cc nL own kr) {i : Nat} (hi : i < 7) (hd : decode cc pc = .ok (.arraylength, 1)) (g : Go X nL S (pc + 1) lv (.int (nI (tq_len.getD i 0)) :: st)) : Go X nL S pc lv (.ref ((tq_zl X).2.2.1 i) :: st) := by
  obtain ⟨p, l, e, R, s, m, args, below, meth, c, A, a, z, Q⟩ := X
  intro H locs ls hP hD hS hl
  have hZ : tq_Z z A s s.heap := C.2.2.2.2.2.2.1
  exact va_tlen C.1 C.2.1 (hZ.2.2.2.1.1 i hi).2.2.2 hS rfl hd (g H locs ls hP hD hS hl)
theorem go_strB (C : tq_C X cc nL own kr) {i : Nat} (hi : i < 7) {x : Int32} (hin : vp_in x (tq_len.getD i 0)) (hd : decode cc pc = .ok (.baload, 1)) (g : Go X nL S (pc + 1) lv (.int ((tq_byt.getD i []).getD x.toNatClampNeg 0) :: st)) : Go X nL S pc lv (.int x :: .ref ((tq_zl X).2.2.1 i) :: st) := by
  obtain ⟨p, l, e, R, s, m, args, below, meth, c, A, a, z, Q⟩ := X
  intro H locs ls hP hD hS hl
  have hZ : tq_Z z A s s.heap := C.2.2.2.2.2.2.1
  exact va_tb C.1 C.2.1 (hZ.2.2.2.1.1 i hi).2.2.2 hS hin rfl hd (g H locs ls hP hD hS hl)
theorem go_fmt (C : tq_C X cc nL own kr) {index : Nat} (hlink : Cond.fieldLink own index "jdk/internal/util/Preconditions" "SIOOBE_FORMATTER" "Ljava/util/function/BiFunction;" ∈ tq_tbl) (hd : decode cc pc = .ok (.getstatic index, 3)) (g : Go X nL S (pc + 3) lv (va_rf (tq_zl X).2.2.2 :: st)) : Go X nL S pc lv st := by
  obtain ⟨p, l, e, R, s, m, args, below, meth, c, A, a, z, Q⟩ := X
  intro H locs ls hP hD hS hl
  have hZ : tq_Z z A s s.heap := C.2.2.2.2.2.2.1
  exact va_gets C.1 C.2.1 hZ.2.2.2.2.2.2 hS C.2.2.2.1 (C.2.2.2.2.1 _ hlink) (fun _ h9 => h9) hd (g H locs ls hP hD hS hl)
end CS
