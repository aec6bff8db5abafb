-- A CONSTRUCTOR'S CONTRACT: out of the fresh object at h it makes the cells W1 a h u (u: the addresses of what it made)
abbrev tq_rmI (k mc ms : Nat) : Room := { frames := k, cells := mc, slots := ms, locals := 100 * k }
abbrev tq_fr (h ci : Nat) (df : List Value) : va_W := [(h, .inr (ci, df))]
def tq_PrI (a : tq_La) (h sz ci : Nat) (df : List Value) (U : State) : Prop := U.heap.size = sz ∧ va_P a.2.1 vwCl (tq_fr h ci df) U.heap ∧ va_K a.2.1 vwCl (tq_ty a) U ∧ va_D (fun _ => True) (tq_fr h ci df) ∧ tq_N U
def tq_MI (y : MethodName) (cc : ByteArray) (n k mc ms ci : Nat) (df : List Value) (W1 : tq_La → Nat → (Nat → Nat) → va_W) : Prop :=
  ∀ (l : Launch) (a : tq_La) (h sz : Nat), Met l y (tq_ws y cc n none) (tq_rmI k mc ms) (va_Pc [.ref h] (tq_PrI a h sz ci df)) (va_Qv (fun _ : Nat → Nat => True) (fun u t => va_P a.2.1 vwCl (W1 a h u) t.heap ∧ va_D (va_A (tq_fr h ci df) sz) (W1 a h u)) (va_A (tq_fr h ci df) sz)) mc ms (va_A (tq_fr h ci df) sz)
theorem tq_blindI {a : tq_La} {h sz ci : Nat} {df : List Value} {av : List Value} : FrameBlind (va_Pc av (tq_PrI a h sz ci df)) := by
  intro v U g mk hh
  obtain ⟨h0, h1, h2, h3, h4, h5⟩ := hh
  exact ⟨h0, h1, h2, va_K.moved (u := U) (U := U.calling g mk v) (Vm.Alike.refl U.vm) h3, h4, h5.same rfl⟩
/-- its end -/
def tq_RI (X : tq_Cx) (cc : ByteArray) (nL : Nat) (W1 : tq_La → Nat → (Nat → Nat) → va_W) (h mc ms : Nat) : Prop := ∀ (u : Nat → Nat) (pc : Nat) (lv : List (Nat × Value)), decode cc pc = .ok (.return_, 1) → GoN X nL (W1 (tq_la X) h u) mc ms pc lv []
theorem tq_mkC {y : MethodName} {cc : ByteArray} {n k mc ms ci : Nat} {df : List Value} {W1 : tq_La → Nat → (Nat → Nat) → va_W} (hy : plainName y.cls = true) (hy2 : y.name = "<init>") (hn : 1 ≤ n) (h : ∀ (X : tq_Cx) (h : Nat), tq_D X cc n y.cls k → X.2.2.2.2.2.2.2.2.2.2.2.2.2.1 = (mc, ms) → tq_RI X cc n W1 h mc ms → GoN X n (tq_fr h ci df) 0 0 0 [(0, .ref h)] []) : tq_MI y cc n k mc ms ci df W1 := by
  intro l a h0 sz
  refine Met.ofW (cc := cc) (maxL := n) (ret := none) hy rfl ?_
  intro p e s m args below meth c s₁ B hml hv
  obtain ⟨rfl, hsz, hP, hK, hD0, hN⟩ := hv
  have hts := atoms_spec (ws := tq_ws y cc n none) B.pre
  have hown : s.vm.findClass y.cls = some m.cls := findClass_of_methodNamed B.named
  have hnm : meth.name = "<init>" := by rw [← hy2]; exact (name_of_methodNamed B.named B.method).1
  subst hsz
  have hD := hD0.self (sz := s.heap.size)
  have hA : ∀ q : Nat, s.heap.size ≤ q → va_A (tq_fr h0 ci df) s.heap.size q := fun q h => Or.inr h
  have hg := h (p, l, e, (headSpec (tq_ws y cc n none) (tq_rmI k mc ms)).room, s, m, ([.ref h0] : List Value).toArray, below, meth, c, va_A (tq_fr h0 ci df) s.heap.size, a, (0, fun _ => 0, fun _ => 0, none), (mc, ms), MQ below (va_Qv (fun _ : Nat → Nat => True) (fun u t => va_P a.2.1 vwCl (W1 a h0 u) t.heap ∧ va_D (va_A (tq_fr h0 ci df) s.heap.size) (W1 a h0 u)) (va_A (tq_fr h0 ci df) s.heap.size)) ([.ref h0] : List Value).toArray s mc ms (va_A (tq_fr h0 ci df) s.heap.size)) h0 ⟨B.exec, B.bytes, hml, hown, fun w hw => hts w (List.mem_cons_of_mem _ hw), hK, ⟨Nat.le_refl _, Nat.le_refl _, Nat.le_refl _, Nat.le_refl _⟩, hA, hnm, B.notSynchronized, hN⟩ rfl ?_
  · have hl := lv_entry ([.ref h0]) (n := n) hn
    rw [lg_entry_eq]
    exact hg s.heap [] _ hP hD va_S.rf hl
  · intro u pc lv hd H locs ls hP1 hD1 hS1 hl
    exact W.vret B.exec B.bytes B.returns (fun t ht hW => ⟨⟨u, rfl, trivial, by rw [ht]; exact hP1, hD1⟩, hS1.F ht⟩) hS1.2.2 hd B.notSynchronized
theorem va_nd_of : ∀ {l : List Nat}, l.Nodup → va_nd l = true
  | [], _ => rfl
  | a :: l, h => by
    obtain ⟨h1, h2⟩ := List.nodup_cons.mp h
    simp [va_nd, h1, va_nd_of h2]
/-- behind a constructor: what was there, and the cells that it made -/
theorem va_joinC {A0 : Nat → Prop} {D : va_G} {cl : List vw_C} {ws w1 : va_W} {c : Nat × va_E} {H H1 : Heap} (hP : va_P D cl (ws ++ [c]) H) (hD : va_D A0 (ws ++ [c])) (hk : ∀ q : Nat, q < H.size → ¬ va_A [c] H.size q → H1[q]? = H[q]?) (hF : ∀ q, va_A [c] H.size q → A0 q) (hP1 : va_P D cl w1 H1) (hD1 : va_D (va_A [c] H.size) w1) : va_P D cl (ws ++ w1) H1 ∧ va_D A0 (ws ++ w1) := by
  refine va_join (ws := ws ++ [c]) (wc := [c]) (wr := ws) hP hD [ws.length] (List.range ws.length) (by simp) ?_ ?_ ?_ hk hF hP1 hD1
  · apply List.ext_getElem?
    intro j
    by_cases hj : j < ws.length
    · simp [hj, List.getElem?_append_left hj]
    · simp [hj]
  · exact va_nd_of (List.nodup_range)
  · intro i hi
    have := List.mem_range.mp hi
    simp
    omega
section NC
variable {X : tq_Cx} {cc : ByteArray} {nL : Nat} {own : String} {kr : Nat} {ws : va_W} {nc ns : Nat} {pc : Nat} {lv : List (Nat × Value)} {st : List Value}
variable {y : MethodName} {cy : ByteArray} {n k mc ms ci : Nat} {df : List Value} {W1 : tq_La → Nat → (Nat → Nat) → va_W}
theorem gn_init (C : tq_D X cc nL own kr) {index q : Nat} (hM : tq_MI y cy n k mc ms ci df W1) (hl : Cond.methodLink own index y ∈ tq_tbl) (hini : Cond.initialized y.cls ∈ tq_tbl) (hin : Cond.instanceMethod y ∈ tq_tbl) (hco : Cond.code y cy n none ∈ tq_tbl) (hd0 : y.cls ≠ "java/lang/invoke/MethodHandle" ∧ y.cls ≠ "java/lang/invoke/VarHandle" ∧ (parseMethodDescriptor y.desc).map (fun d => d.parameters.length) = some 0) (hy1 : y.name = "<init>") (hrk : tq_rk k kr n = true) (hrm : Nat.ble ((st.map fun v => v.category).sum) 8 = true) (hc : nc + mc ≤ X.2.2.2.2.2.2.2.2.2.2.2.2.2.1.1) (hs : ns + ms ≤ X.2.2.2.2.2.2.2.2.2.2.2.2.2.1.2) (hd : decode cc pc = .ok (.invokespecial index, 3)) (g : ∀ u, GoN X nL (ws ++ W1 (tq_la X) q u) (nc + mc) (ns + ms) (pc + 3) lv st) : GoN X nL (ws ++ [(q, .inr (ci, df))]) nc ns pc lv (.ref q :: st) := by
  obtain ⟨p, l, e, R, s, m, args, below, meth, c, A, a, z, Q⟩ := X
  intro H locs ls hP hD hS hlv
  have hR := C.2.2.2.2.2.2.1
  have hK : va_K a.2.1 vwCl (tq_ty a) s := C.2.2.2.2.2.1
  have hPc : va_P a.2.1 vwCl (tq_fr q ci df) H := va_P_mem.mpr (fun x hx => va_P_mem.mp hP x (List.mem_append_right _ hx))
  have hDc : va_D (fun _ => True) (tq_fr q ci df) := va_D_mem.mpr ⟨by simp, fun _ _ => trivial⟩
  have hF : ∀ x, va_A (tq_fr q ci df) H.size x → A x := by
    intro x hx
    rcases hx with ⟨k9, e9, h9⟩ | h9
    · exact (va_D_mem.mp hD).2 (x, e9) (List.mem_append_right _ (List.mem_of_getElem? h9))
    · exact C.2.2.2.2.2.2.2.1 x (Nat.le_trans hS.1 h9)
  have hGd : GoodIn tq_tbl (tq_ws y cy n none) := fun w hw => by
    rcases List.mem_cons.mp hw with rfl | h2
    · exact ⟨hco, good_of_word (List.mem_filter.mp hco).2⟩
    · exact tq_gT w h2
  refine va_callv (va_runI (As := []) (rest := st) ⟨C.1, C.2.1, C.2.2.1, C.2.2.2.1, C.2.2.2.2.1⟩ (hM l a q H.size) (cwI 0 C.2.2.2.2.1 hGd rfl rfl rfl (C.2.2.2.2.1 _ hini) (C.2.2.2.2.1 _ hl) (C.2.2.2.2.1 _ hin) hy1 hd0 ⟨Nat.le_trans (tq_rk_ok hrk).1 hR.1, Nat.le_trans (tq_rk_ok hrk).2 hR.2.1⟩) ⟨tq_blindI, fun U hU hW => ⟨rfl, by rw [hU], by rw [hU]; exact hPc, va_K.moved hW.alike hK, hDc, (C.2.2.2.2.2.2.2.2.2.2).warm hW⟩⟩ rfl rfl hlv.1 rfl (lv_room (Nat.le_of_ble_eq_true hrm)) hd ⟨Nat.le_trans hc hR.2.2.1, Nat.le_trans hs hR.2.2.2⟩) hS (fun x _ h => hF x h) hF (fun u t H1 locs1 ht hvm hw2 hB hz1 hk1 hS1 => ?_)
  obtain ⟨hP1, hD1⟩ := hB
  rw [ht] at hP1
  obtain ⟨hP2, hD2⟩ := va_joinC hP hD hk1 hF hP1 hD1
  exact g u H1 locs1 ls hP2 hD2 hS1 hlv
theorem gn_initN (C : tq_D X cc nL own kr) {index q : Nat} {host : String} (hM : tq_MI y cy n k mc ms ci df W1) (hl : va_Nw (.methodLinkNest own index y host) X.2.2.2.2.1) (hini : Cond.initialized y.cls ∈ tq_tbl) (hin : Cond.instanceMethod y ∈ tq_tbl) (hco : Cond.code y cy n none ∈ tq_tbl) (hd0 : y.cls ≠ "java/lang/invoke/MethodHandle" ∧ y.cls ≠ "java/lang/invoke/VarHandle" ∧ (parseMethodDescriptor y.desc).map (fun d => d.parameters.length) = some 0) (hy1 : y.name = "<init>") (hrk : tq_rk k kr n = true) (hrm : Nat.ble ((st.map fun v => v.category).sum) 8 = true) (hc : nc + mc ≤ X.2.2.2.2.2.2.2.2.2.2.2.2.2.1.1) (hs : ns + ms ≤ X.2.2.2.2.2.2.2.2.2.2.2.2.2.1.2) (hd : decode cc pc = .ok (.invokespecial index, 3)) (g : ∀ u, GoN X nL (ws ++ W1 (tq_la X) q u) (nc + mc) (ns + ms) (pc + 3) lv st) : GoN X nL (ws ++ [(q, .inr (ci, df))]) nc ns pc lv (.ref q :: st) := by
  obtain ⟨p, l, e, R, s, m, args, below, meth, c, A, a, z, Q⟩ := X
  intro H locs ls hP hD hS hlv
  have hR := C.2.2.2.2.2.2.1
  have hK : va_K a.2.1 vwCl (tq_ty a) s := C.2.2.2.2.2.1
  have hPc : va_P a.2.1 vwCl (tq_fr q ci df) H := va_P_mem.mpr (fun x hx => va_P_mem.mp hP x (List.mem_append_right _ hx))
  have hDc : va_D (fun _ => True) (tq_fr q ci df) := va_D_mem.mpr ⟨by simp, fun _ _ => trivial⟩
  have hF : ∀ x, va_A (tq_fr q ci df) H.size x → A x := by
    intro x hx
    rcases hx with ⟨k9, e9, h9⟩ | h9
    · exact (va_D_mem.mp hD).2 (x, e9) (List.mem_append_right _ (List.mem_of_getElem? h9))
    · exact C.2.2.2.2.2.2.2.1 x (Nat.le_trans hS.1 h9)
  have hGd : GoodIn tq_tbl (tq_ws y cy n none) := fun w hw => by
    rcases List.mem_cons.mp hw with rfl | h2
    · exact ⟨hco, good_of_word (List.mem_filter.mp hco).2⟩
    · exact tq_gT w h2
  refine va_callv (va_runIN (As := []) (rest := st) ⟨C.1, C.2.1, C.2.2.1, C.2.2.2.1, C.2.2.2.2.1⟩ (hM l a q H.size) ⟨va_cnB 0 C.2.2.2.2.1 hGd rfl rfl rfl hl (C.2.2.2.2.1 _ hini) hd0 ⟨Nat.le_trans (tq_rk_ok hrk).1 hR.1, Nat.le_trans (tq_rk_ok hrk).2 hR.2.1⟩, hy1, C.2.2.2.2.1 _ hin⟩ ⟨tq_blindI, fun U hU hW => ⟨rfl, by rw [hU], by rw [hU]; exact hPc, va_K.moved hW.alike hK, hDc, (C.2.2.2.2.2.2.2.2.2.2).warm hW⟩⟩ rfl rfl hlv.1 rfl (lv_room (Nat.le_of_ble_eq_true hrm)) hd ⟨Nat.le_trans hc hR.2.2.1, Nat.le_trans hs hR.2.2.2⟩) hS (fun x _ h => hF x h) hF (fun u t H1 locs1 ht hvm hw2 hB hz1 hk1 hS1 => ?_)
  obtain ⟨hP1, hD1⟩ := hB
  rw [ht] at hP1
  obtain ⟨hP2, hD2⟩ := va_joinC hP hD hk1 hF hP1 hD1
  exact g u H1 locs1 ls hP2 hD2 hS1 hlv
end NC
