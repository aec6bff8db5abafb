-- CONTRACTS OUT OF WALKS, BY THE KIND OF THE ANSWER
section MK2
variable {y : MethodName} {cc : ByteArray} {n k : Nat} {av : tq_La → tq_Zl → List Value} {S : tq_St}
theorem tq_mkI {K : Int32 → tq_St → Prop} (hy : plainName y.cls = true) (hlen : ∀ a z, (lg_sl (av a z)).length ≤ n) (h : ∀ X : tq_Cx, tq_C X cc n y.cls k → tq_Ri X cc n K → Go X n S 0 (lv_args 0 (av (tq_la X) (tq_zl X))) []) : tq_Mi y cc n (some .int) k av S K := by
  refine tq_mk (Qc := fun a z A => va_Qi K (tq_Post a A) A) hy hlen ?_
  rintro ⟨p, l, e, R, s, m, args, below, meth, c, A, a, z, Q⟩ C ⟨s', args', below', h1, h2, h3, h4, h5⟩
  refine h _ C ?_
  intro r S' pc lv hd hK H locs ls hP hD hS hl
  have hr : meth.sig.returnType = some .int := h3
  have hQ : Q = ((0, 0), MQ below' (va_Qi K (tq_Post a A) A) args' s' 0 0 A) := h4
  have e1 : s = s' := h1
  have e2 : args = args' := h2
  have e3 : below = below' := h5
  subst e1; subst e2; subst e3; subst hQ
  exact W.iret C.1 C.2.1 hr (fun t ht hW => ⟨⟨r, S', rfl, hK, by rw [tq_Post, ht]; exact ⟨hP, hD⟩⟩, hS.F ht⟩) hS.2.2 hd C.2.2.2.2.2.2.2.2
theorem tq_mkZ {K : Int32 → tq_St → Prop} (hy : plainName y.cls = true) (hlen : ∀ a z, (lg_sl (av a z)).length ≤ n) (h : ∀ X : tq_Cx, tq_C X cc n y.cls k → tq_Rz X cc n K → Go X n S 0 (lv_args 0 (av (tq_la X) (tq_zl X))) []) : tq_Mi y cc n (some .boolean) k av S K := by
  refine tq_mk (Qc := fun a z A => va_Qi K (tq_Post a A) A) hy hlen ?_
  rintro ⟨p, l, e, R, s, m, args, below, meth, c, A, a, z, Q⟩ C ⟨s', args', below', h1, h2, h3, h4, h5⟩
  refine h _ C ?_
  intro r S' pc lv hd h01 hK H locs ls hP hD hS hl
  have hr : meth.sig.returnType = some .boolean := h3
  have hQ : Q = ((0, 0), MQ below' (va_Qi K (tq_Post a A) A) args' s' 0 0 A) := h4
  have e1 : s = s' := h1
  have e2 : args = args' := h2
  have e3 : below = below' := h5
  subst e1; subst e2; subst e3; subst hQ
  exact W.zret C.1 C.2.1 hr (by rcases h01 with rfl | rfl <;> decide +kernel) (fun t ht hW => ⟨⟨r, S', rfl, hK, by rw [tq_Post, ht]; exact ⟨hP, hD⟩⟩, hS.F ht⟩) hS.2.2 hd C.2.2.2.2.2.2.2.2
theorem tq_mkL {K : Int64 → tq_St → Prop} (hy : plainName y.cls = true) (hlen : ∀ a z, (lg_sl (av a z)).length ≤ n) (h : ∀ X : tq_Cx, tq_C X cc n y.cls k → tq_Rl X cc n K → Go X n S 0 (lv_args 0 (av (tq_la X) (tq_zl X))) []) : tq_Ml y cc n (some .long) k av S K := by
  refine tq_mk (Qc := fun a z A => va_Ql K (tq_Post a A) A) hy hlen ?_
  rintro ⟨p, l, e, R, s, m, args, below, meth, c, A, a, z, Q⟩ C ⟨s', args', below', h1, h2, h3, h4, h5⟩
  refine h _ C ?_
  intro r S' pc lv hd hK H locs ls hP hD hS hl
  have hr : meth.sig.returnType = some .long := h3
  have hQ : Q = ((0, 0), MQ below' (va_Ql K (tq_Post a A) A) args' s' 0 0 A) := h4
  have e1 : s = s' := h1
  have e2 : args = args' := h2
  have e3 : below = below' := h5
  subst e1; subst e2; subst e3; subst hQ
  exact W.lret C.1 C.2.1 hr (fun t ht hW => ⟨⟨r, S', rfl, hK, by rw [tq_Post, ht]; exact ⟨hP, hD⟩⟩, hS.F ht⟩) hS.2.2 hd C.2.2.2.2.2.2.2.2
theorem tq_mkV {K : tq_St → Prop} (hy : plainName y.cls = true) (hlen : ∀ a z, (lg_sl (av a z)).length ≤ n) (h : ∀ X : tq_Cx, tq_C X cc n y.cls k → tq_Rv X cc n K → Go X n S 0 (lv_args 0 (av (tq_la X) (tq_zl X))) []) : tq_Mv y cc n none k av S K := by
  refine tq_mk (Qc := fun a z A => va_Qv K (tq_Post a A) A) hy hlen ?_
  rintro ⟨p, l, e, R, s, m, args, below, meth, c, A, a, z, Q⟩ C ⟨s', args', below', h1, h2, h3, h4, h5⟩
  refine h _ C ?_
  intro S' pc lv hd hK H locs ls hP hD hS hl
  have hr : meth.sig.returnType = none := h3
  have hQ : Q = ((0, 0), MQ below' (va_Qv K (tq_Post a A) A) args' s' 0 0 A) := h4
  have e1 : s = s' := h1
  have e2 : args = args' := h2
  have e3 : below = below' := h5
  subst e1; subst e2; subst e3; subst hQ
  exact W.vret C.1 C.2.1 hr (fun t ht hW => ⟨⟨S', rfl, hK, by rw [tq_Post, ht]; exact ⟨hP, hD⟩⟩, hS.F ht⟩) hS.2.2 hd C.2.2.2.2.2.2.2.2
end MK2
-- CALLS
/-- the words of a virtual call -/
def tq_Wv (own : String) (index : Nat) (Cn : String) (y : MethodName) (cc : ByteArray) (n : Nat) (ret : Option FieldType) (np : Nat) : Prop :=
  GoodIn tq_tbl (wsV own index Cn y (tq_ws y cc n ret)) ∧ y.cls = Cn ∧ y.cls ≠ "java/lang/invoke/MethodHandle" ∧ y.cls ≠ "java/lang/invoke/VarHandle" ∧ (parseMethodDescriptor y.desc).map (fun d => d.parameters.length) = some np
def tq_Wst (own : String) (index : Nat) (y : MethodName) (cc : ByteArray) (n : Nat) (ret : Option FieldType) (np : Nat) : Prop :=
  GoodIn tq_tbl (va_wsS own index y (tq_ws y cc n ret)) ∧ y.cls ≠ "java/lang/invoke/MethodHandle" ∧ y.cls ≠ "java/lang/invoke/VarHandle" ∧ (parseMethodDescriptor y.desc).map (fun d => d.parameters.length) = some np
theorem tq_g1 {w : Cond} (h : w ∈ lw_tbl) (hg : goodWord w = true) : w ∈ tq_tbl ∧ ((w.onTables && w.keeps) = true ∨ ∃ ty, w = .arrayClass ty) := ⟨tq_mem h hg, good_of_word hg⟩
theorem tq_gT : GoodIn tq_tbl tq_tbl := fun w h => ⟨h, good_of_word (List.mem_filter.mp h).2⟩
theorem tq_gC {w : Cond} {l : List Cond} (h : w ∈ lw_tbl) (hg : goodWord w = true) (t : GoodIn tq_tbl l) : GoodIn tq_tbl (w :: l) := fun v hv => by
  rcases List.mem_cons.mp hv with rfl | h2
  · exact tq_g1 h hg
  · exact t v h2
theorem tq_wv {own : String} {index : Nat} {Cn : String} {y : MethodName} {cc : ByteArray} {n np : Nat} {ret : Option FieldType} (h1 : Cond.methodLink own index y ∈ lw_tbl) (h2 : Cond.instanceMethod y ∈ lw_tbl) (h3 : Cond.selects Cn y y ∈ lw_tbl) (h4 : Cond.initialized Cn ∈ lw_tbl) (h5 : Cond.code y cc n ret ∈ lw_tbl) (hd : y.cls = Cn ∧ y.cls ≠ "java/lang/invoke/MethodHandle" ∧ y.cls ≠ "java/lang/invoke/VarHandle" ∧ (parseMethodDescriptor y.desc).map (fun d => d.parameters.length) = some np) : tq_Wv own index Cn y cc n ret np :=
  ⟨tq_gC h1 rfl (tq_gC h2 rfl (tq_gC h3 rfl (tq_gC h4 rfl (tq_gC h5 rfl tq_gT)))), hd⟩
theorem tq_wst {own : String} {index : Nat} {y : MethodName} {cc : ByteArray} {n np : Nat} {ret : Option FieldType} (h1 : Cond.methodLink own index y ∈ lw_tbl) (h2 : Cond.static y ∈ lw_tbl) (h4 : Cond.initialized y.cls ∈ lw_tbl) (h5 : Cond.code y cc n ret ∈ lw_tbl) (hd : y.cls ≠ "java/lang/invoke/MethodHandle" ∧ y.cls ≠ "java/lang/invoke/VarHandle" ∧ (parseMethodDescriptor y.desc).map (fun d => d.parameters.length) = some np) : tq_Wst own index y cc n ret np :=
  ⟨tq_gC h1 rfl (tq_gC h2 rfl (tq_gC h4 rfl (tq_gC h5 rfl tq_gT))), hd⟩
/-- the room of a call -/
def tq_rk (k kr n : Nat) : Bool := Nat.ble (k + 1) kr && Nat.ble (8 + (n + 11) + 100 * k) (100 * kr)
theorem tq_rk_ok {k kr n : Nat} (h : tq_rk k kr n = true) : k + 1 ≤ kr ∧ 8 + (n + 11) + 100 * k ≤ 100 * kr := by
  unfold tq_rk at h
  simp only [Bool.and_eq_true] at h
  exact ⟨Nat.le_of_ble_eq_true h.1, Nat.le_of_ble_eq_true h.2⟩
section CL
variable {X : tq_Cx} {cc : ByteArray} {nL : Nat} {own : String} {kr : Nat} {S : tq_St} {pc : Nat} {lv : List (Nat × Value)} {st st0 : List Value}
variable {y : MethodName} {cy : ByteArray} {n np k : Nat} {ret : Option FieldType} {av : tq_La → tq_Zl → List Value}
/-- the receiver of a virtual call -/
def tq_rec (X : tq_Cx) (S : tq_St) (b : Nat) (Cn : String) : Prop := match X with
  | (_, _, _, _, s, _, _, _, _, _, A, a, _, _) => ∀ (H : Heap) (locs : List Loc), va_P a.2.1 vwCl (tq_W a S) H → va_S A s.heap H locs → ∃ cellB : Cell, H[b]? = some cellB ∧ cellB.vm.isStatics = false ∧ s.vm.findClass Cn = some cellB.cls
theorem tq_rec_of (C : tq_C X cc nL own kr) {o ci : Nat} (hq : (o, 0) ∈ tq_cids) {fs : List Value} (hc : tq_gc (tq_la X) S o 0 = .inr (ci, fs)) {Cn : String} {T : u_T} {N : Nat} (hcl : vwCl[ci]? = some (Cn, T, N)) : tq_rec X S ((tq_la X).1 o 0) Cn := by
  obtain ⟨p, l, e, R, s, m, args, below, meth, c, A, a, z, Q⟩ := X
  intro H locs hP hS
  obtain ⟨q0, -, hq0⟩ := tq_at a S hq
  have hc : tq_gc a S o 0 = .inr (ci, fs) := hc
  rw [hc] at hq0
  exact va_recv C.2.2.2.2.2.1 hP hcl hq0
theorem go_cVi {K : Int32 → tq_St → Prop} (C : tq_C X cc nL own kr) {index b : Nat} {Cn : String} {As : List Value} (hw : tq_Wv own index Cn y cy n ret np) (hM : tq_Mi y cy n ret k av S K) (hrc : tq_rec X S b Cn) (hav : av (tq_la X) (tq_zl X) = .ref b :: As) (hst : st0 = As.reverse ++ .ref b :: st) (hn : As.length = np) (hrk : tq_rk k kr n = true) (hrm : Nat.ble ((st.map fun v => v.category).sum) 8 = true) (hd : decode cc pc = .ok (.invokevirtual index, 3)) (g : ∀ r S', K r S' → Go X nL S' (pc + 3) lv (.int r :: st)) : Go X nL S pc lv st0 := by
  obtain ⟨p, l, e, R, s, m, args, below, meth, c, A, a, z, Q⟩ := X
  intro H locs ls hP hD hS hl
  have hR := C.2.2.2.2.2.2.2.1
  have hav : av a z = .ref b :: As := hav
  have hM := hM l A a z
  rw [hav] at hM
  refine va_calli (va_runV (As := As) (rest := st) ⟨C.1, C.2.1, C.2.2.1, C.2.2.2.1, C.2.2.2.2.1⟩ hM (cwV np C.2.2.2.2.1 hw.1 rfl rfl rfl hw.2 ⟨Nat.le_trans (tq_rk_ok hrk).1 hR.1, Nat.le_trans (tq_rk_ok hrk).2 hR.2.1⟩) ⟨tq_blind, hrc H locs hP hS, fun U hU hW => ⟨rfl, by rw [hU]; exact hP, va_K.moved hW.alike C.2.2.2.2.2.1, hD, (C.2.2.2.2.2.2.1).to hS hU hW⟩⟩ rfl hn hl.1 hst (lv_room (Nat.le_of_ble_eq_true hrm)) hd ⟨hR.2.2.1, hR.2.2.2⟩) hS (fun q _ h => h) (fun q h => h) (fun r u t H1 locs1 ht hvm hw2 hB hz1 hk1 hS1 => ?_)
  obtain ⟨hP1, hD1⟩ := hB
  rw [ht] at hP1
  exact g r u hw2 H1 locs1 ls hP1 hD1 hS1 hl
theorem go_cVl {K : Int64 → tq_St → Prop} (C : tq_C X cc nL own kr) {index b : Nat} {Cn : String} {As : List Value} (hw : tq_Wv own index Cn y cy n ret np) (hM : tq_Ml y cy n ret k av S K) (hrc : tq_rec X S b Cn) (hav : av (tq_la X) (tq_zl X) = .ref b :: As) (hst : st0 = As.reverse ++ .ref b :: st) (hn : As.length = np) (hrk : tq_rk k kr n = true) (hrm : Nat.ble ((st.map fun v => v.category).sum) 8 = true) (hd : decode cc pc = .ok (.invokevirtual index, 3)) (g : ∀ r S', K r S' → Go X nL S' (pc + 3) lv (.long r :: st)) : Go X nL S pc lv st0 := by
  obtain ⟨p, l, e, R, s, m, args, below, meth, c, A, a, z, Q⟩ := X
  intro H locs ls hP hD hS hl
  have hR := C.2.2.2.2.2.2.2.1
  have hav : av a z = .ref b :: As := hav
  have hM := hM l A a z
  rw [hav] at hM
  refine va_calll (va_runV (As := As) (rest := st) ⟨C.1, C.2.1, C.2.2.1, C.2.2.2.1, C.2.2.2.2.1⟩ hM (cwV np C.2.2.2.2.1 hw.1 rfl rfl rfl hw.2 ⟨Nat.le_trans (tq_rk_ok hrk).1 hR.1, Nat.le_trans (tq_rk_ok hrk).2 hR.2.1⟩) ⟨tq_blind, hrc H locs hP hS, fun U hU hW => ⟨rfl, by rw [hU]; exact hP, va_K.moved hW.alike C.2.2.2.2.2.1, hD, (C.2.2.2.2.2.2.1).to hS hU hW⟩⟩ rfl hn hl.1 hst (lv_room (Nat.le_of_ble_eq_true hrm)) hd ⟨hR.2.2.1, hR.2.2.2⟩) hS (fun q _ h => h) (fun q h => h) (fun r u t H1 locs1 ht hvm hw2 hB hz1 hk1 hS1 => ?_)
  obtain ⟨hP1, hD1⟩ := hB
  rw [ht] at hP1
  exact g r u hw2 H1 locs1 ls hP1 hD1 hS1 hl
theorem go_cVv {K : tq_St → Prop} (C : tq_C X cc nL own kr) {index b : Nat} {Cn : String} {As : List Value} (hw : tq_Wv own index Cn y cy n ret np) (hM : tq_Mv y cy n ret k av S K) (hrc : tq_rec X S b Cn) (hav : av (tq_la X) (tq_zl X) = .ref b :: As) (hst : st0 = As.reverse ++ .ref b :: st) (hn : As.length = np) (hrk : tq_rk k kr n = true) (hrm : Nat.ble ((st.map fun v => v.category).sum) 8 = true) (hd : decode cc pc = .ok (.invokevirtual index, 3)) (g : ∀ S', K S' → Go X nL S' (pc + 3) lv st) : Go X nL S pc lv st0 := by
  obtain ⟨p, l, e, R, s, m, args, below, meth, c, A, a, z, Q⟩ := X
  intro H locs ls hP hD hS hl
  have hR := C.2.2.2.2.2.2.2.1
  have hav : av a z = .ref b :: As := hav
  have hM := hM l A a z
  rw [hav] at hM
  refine va_callv (va_runV (As := As) (rest := st) ⟨C.1, C.2.1, C.2.2.1, C.2.2.2.1, C.2.2.2.2.1⟩ hM (cwV np C.2.2.2.2.1 hw.1 rfl rfl rfl hw.2 ⟨Nat.le_trans (tq_rk_ok hrk).1 hR.1, Nat.le_trans (tq_rk_ok hrk).2 hR.2.1⟩) ⟨tq_blind, hrc H locs hP hS, fun U hU hW => ⟨rfl, by rw [hU]; exact hP, va_K.moved hW.alike C.2.2.2.2.2.1, hD, (C.2.2.2.2.2.2.1).to hS hU hW⟩⟩ rfl hn hl.1 hst (lv_room (Nat.le_of_ble_eq_true hrm)) hd ⟨hR.2.2.1, hR.2.2.2⟩) hS (fun q _ h => h) (fun q h => h) (fun u t H1 locs1 ht hvm hw2 hB hz1 hk1 hS1 => ?_)
  obtain ⟨hP1, hD1⟩ := hB
  rw [ht] at hP1
  exact g u hw2 H1 locs1 ls hP1 hD1 hS1 hl
end CL
