/-! THE CLAIM OUT OF ONE WALK OF THE LAW'S BODY. Your part is whole_start (and what it stands on); all else here is the same for every law, but numbers. -/
def R_law : String := "TearsQueueLaw"
def lw_P (b : Addr) (xs : List Int32) (args : Array Value) (s : State) : Prop := args = #[.ref b] ∧ s.IntsAt b xs ∧ xs.length ≤ 320 ∧ (Jvm.Cond.and given_1 narrow_1).before args s = true
def lw_Q (_ : Array Value) (s : State) (o : Outcome) (t : State) : Prop := o = .returned (some (.int 1)) ∧ Framed s o t [] 600000 7302250
def lw_Z (below : List Frame) (a : Array Value) (s : State) : State → Prop := fun t => ∃ o, t.status = .running ∧ Ended t below o ∧ lw_Q a s o t
/-- the law's own end, with 1 on the stack, nothing written that was there before, its room as the claim has it -/
theorem lw_ret {p : Program} {l : Launch} {e : Env} {s : State} {m : MethodId} {below : List Frame} {meth : Method} {c : Code} {b : Nat} (hx : p.tables.exec = Jvm.exec) (hb : c.code = code) (hr : meth.sig.returnType = ret) (hlocks : meth.locks = false) {pc : Nat} {H : Heap} {ls : Array Slot} (hdg : decode code pc = .ok (.ireturn, 1)) : W p l e room_1 s m #[Value.ref b] below meth c H [] 600000 7302250 (lw_Z below #[Value.ref b] s) (F0 m pc ls [.int 1]) := by
  intro T hT X
  obtain ⟨fs, hret, hrun, hended, hW, hframe⟩ := X.leave (v := some (.int 1)) (hlocks := hlocks) (fun h => by rw [hr] at h; cases h)
  have hmeth' : T.vm.method? m = some meth := X.method'
  refine ⟨T.setFrames fs, ?_, .returned (some (.int 1)), hrun, hended, rfl, ⟨_, rfl⟩, hW, hframe⟩
  jvm_step X.here [X.here.top, hx, hb, hdg, hmeth', hr, ret, narrow_b1]
  (try refine ⟨rfl, ?_⟩); (try refine ⟨rfl, ?_⟩)
  first | (intro acts; rw [hret _ acts rfl rfl rfl]) | rw [hret _ _ rfl rfl rfl]
  exact Steps.refl _
/-- what holds at the law's entry: the machine, the code, the tables' words (any of lw_tbl by 'hts w (by decide +kernel)'), the script of L ints xs at the cell b, what the Statement gives of the start (any of its parts by flat_of_before) -/
def lw_At (p : Program) (s : State) (m : MethodId) (meth : Method) (c : Code) (b L : Nat) (xs : Nat → Int32) : Prop :=
  p.tables.exec = Jvm.exec ∧ c.code = code ∧ meth.sig.returnType = ret ∧ c.maxLocals = 4 ∧ s.vm.findClass R_law = some m.cls ∧ (∀ w ∈ lw_tbl, w.before #[Value.ref b] s = true) ∧ va_X b L xs s s.heap ∧ b < s.heap.size ∧ meth.locks = false ∧ (Jvm.Cond.and given_1 narrow_1).before #[Value.ref b] s = true
-- ===== YOUR PART BEGINS =====
set_option maxRecDepth 100000 in
set_option maxHeartbeats 4000000 in
theorem lw_begin {X : tq_Cx} {b : Nat} (C : tq_DL X cL_law 4 RL 40) (hQ : X.2.2.2.2.2.2.2.2.2.2.2.2.2.1 = (152, 1864)) (g : ∀ (q : Nat) (u : Nat → Nat) (q' : Nat) (u' : Nat → Nat), GoN X 4 (wn_X6 (tq_la X) q u ++ wn_X7 (tq_la X) q' u') 152 1864 18 [(3, .int 0), (2, .ref q'), (1, .ref q), (0, .ref b)] []) : GoN X 4 [] 0 0 0 [(0, .ref b)] [] := by
  refine gl_new (pc := 0) (ci := 6) C dL_law_0 (tq_mem (tb_1 (List.mem_of_getElem? (i := 17) rfl)) rfl) (tq_mem (tb_1 (List.mem_of_getElem? (i := 18) rfl)) rfl) (tq_mem (tb_1 (List.mem_of_getElem? (i := 1) rfl)) rfl) itX6 tyX6 tyX6_ok rfl [.null, .null, .null, .null, .null, .null, .null, .null, .null, .null, .int 0] df_X6 (by rw [hQ]; decide) (by rw [hQ]; decide) (fun q => ?_)
  refine gl_dup (pc := 3) C dL_law_3 rfl ?_
  refine gl_init (ws := []) (pc := 4) C ok_X6_init (tq_mem (tb_1 (List.mem_of_getElem? (i := 19) rfl)) rfl) (tq_mem (tb_1 (List.mem_of_getElem? (i := 1) rfl)) rfl) (tq_mem (tb_1 (List.mem_of_getElem? (i := 20) rfl)) rfl) (tq_mem (tb_1 (List.mem_of_getElem? (i := 21) rfl)) rfl) (by decide +kernel) rfl rfl rfl (by rw [hQ]; decide) (by rw [hQ]; decide) dL_law_4 (fun u => ?_)
  refine gl_astore_n (pc := 7) C dL_law_7 [(1, .ref q), (0, .ref b)] rfl (by decide) rfl ?_
  refine gl_new (pc := 8) (ci := 7) C dL_law_8 (tq_mem (tb_4 (List.mem_of_getElem? (i := 64) rfl)) rfl) (tq_mem (tb_4 (List.mem_of_getElem? (i := 65) rfl)) rfl) (tq_mem (tb_1 (List.mem_of_getElem? (i := 8) rfl)) rfl) itX7 tyX7 tyX7_ok rfl [.null, .null, .int 0, .null, .int 0, .int 0, .int 0, .null, .int 0, .int 0, .int 0, .int 0, .int 0, .int 0, .int 0, .int 0, .null, .null, .int 0, .int 0, .int 0, .null, .int 0, .null, .null, .null, .null, .null, .int 0] df_X7 (by rw [hQ]; decide) (by rw [hQ]; decide) (fun q' => ?_)
  refine gl_dup (pc := 11) C dL_law_11 rfl ?_
  refine gl_init (pc := 12) C ok_X7_init (tq_mem (tb_4 (List.mem_of_getElem? (i := 66) rfl)) rfl) (tq_mem (tb_1 (List.mem_of_getElem? (i := 8) rfl)) rfl) (tq_mem (tb_4 (List.mem_of_getElem? (i := 67) rfl)) rfl) (tq_mem (tb_4 (List.mem_of_getElem? (i := 68) rfl)) rfl) (by decide +kernel) rfl rfl rfl (by rw [hQ]; decide) (by rw [hQ]; decide) dL_law_12 (fun u' => ?_)
  refine gl_astore_n (pc := 15) C dL_law_15 [(2, .ref q'), (1, .ref q), (0, .ref b)] rfl (by decide) rfl ?_
  refine gl_iconst (pc := 16) (v := 0) C dL_law_16 (by decide) ?_
  refine gl_istore_n (pc := 17) C dL_law_17 [(3, .int 0), (2, .ref q'), (1, .ref q), (0, .ref b)] rfl (by decide) rfl ?_
  exact g q u q' u'
set_option maxRecDepth 100000 in
set_option maxHeartbeats 4000000 in
theorem whole_start {p : Program} {e : Env} {s : State} {m : MethodId} {below : List Frame} {meth : Method} {c : Code} (l : Launch) {b L : Nat} {xs : Nat → Int32} (hL : L ≤ 320) (C0 : lw_At p s m meth c b L xs) : W p l e room_1 s m #[Value.ref b] below meth c s.heap [] 0 0 (lw_Z below #[Value.ref b] s) (entryFrame m ([Value.ref b] : List Value).toArray 4) := by
  obtain ⟨hx, hb, hr, hml, hown, hts, hX, hbl, hlocks, hgv⟩ := id C0
  have htq : ∀ w ∈ tq_tbl, w.before #[Value.ref b] s = true := fun w hw => hts w (List.mem_filter.mp hw).1
  obtain ⟨z, hZ⟩ := lw_Zs hts hgv
  obtain ⟨D, tf, hK⟩ := lw_Ks hts
  have hl := lv_entry ([.ref b]) (n := 4) (Nat.le_of_ble_eq_true rfl)
  rw [lg_entry_eq]
  have hroom : 40 ≤ room_1.frames ∧ 100 * 40 ≤ room_1.locals ∧ 152 ≤ room_1.cells ∧ 1864 ≤ room_1.slots := by decide
  have hP0 : va_P D vwCl [] s.heap := fun k q h => by simp at h
  have hD0 : va_D (fun q : Nat => s.heap.size ≤ q) [] := ⟨fun i j p q h => by simp at h, fun k q h => by simp at h⟩
  refine lw_begin (X := (p, l, e, room_1, s, m, #[Value.ref b], below, meth, c, fun q : Nat => s.heap.size ≤ q, (fun _ _ => 0, D, tf), z, (152, 1864), lw_Z below #[Value.ref b] s)) (b := b) ⟨hx, hb, hml, hown, htq, hK _, hroom, fun _ h => h, lw_Ns hts⟩ rfl ?_ s.heap [] _ hP0 hD0 va_S.rf hl
  intro q u q' u' H locs ls hP hD hS hlv
  have hP1 : va_P D vwCl (tq_W (lw_f q q' u u', D, tf) lw_S0) H := lw_wP hP
  have hD1 : va_D (fun q : Nat => s.heap.size ≤ q) (tq_W (lw_f q q' u u', D, tf) lw_S0) := lw_wD hD
  refine lc_loop (X := (p, l, e, room_1, s, m, #[Value.ref b], below, meth, c, fun q : Nat => s.heap.size ≤ q, (lw_f q q' u u', D, tf), z, (152, 1864), lw_Z below #[Value.ref b] s)) (b := b) (L := L) (xs := xs) ⟨hx, hb, hml, hown, htq, hK _, hZ, hroom, hlocks⟩ ⟨hX, hbl, Nat.not_le.mpr hbl⟩ hL js_all ?_ (L + 1) 0 lw_S0 (by omega) (by omega) lw_J0 H locs ls hP1 hD1 hS hlv
  intro S lv hJ H1 locs1 ls1 hP2 hD2 hS2 hl2
  refine va_forget hS2.2.2 ?_
  refine W.widen (k := 600000) (n := 7302250) (by show 152 ≤ 600000; decide) (by show 1864 ≤ 7302250; decide) ?_
  exact lw_ret hx hb hr hlocks dL_law_1291
-- ===== YOUR PART ENDS =====
set_option maxHeartbeats 4000000 in
theorem lw_walk (l : Launch) (b : Addr) (xs : List Int32) : MetFree l x (headSpec (Jvm.Cond.code x code maxLocals ret :: tables_1) room_1) (lw_P b xs) (fun _ _ _ _ _ => True) lw_Q := by
  refine MetFree.of_bodyS (code := code) (maxLocals := maxLocals) (ret := ret) (by decide) ?_ ?_
  · intro args s m h hn
    obtain ⟨meth, c, h1, h2, h3, h4, h5, h6, -, -⟩ := Cond.code_spec hn (atoms_spec (ws := Jvm.Cond.code x code maxLocals ret :: tables_1) h _ List.mem_cons_self)
    exact ⟨meth, c, h1, h2, h3, h4, h5, h6⟩
  · intro p e s m args below meth c s₁ B hml0 hP _
    obtain ⟨rfl, hx, hbd, hgv⟩ := hP
    obtain ⟨scr, harrAt, hlist, hof, hsmall⟩ := hx
    obtain ⟨hcb, hkn, -, -⟩ := State.arrayAt?_spec harrAt
    have hown : s.vm.findClass R_law = some m.cls := findClass_of_methodNamed B.named
    have hts0 : ∀ c ∈ (Jvm.Cond.code x code maxLocals ret :: tables_1), c.before #[Value.ref b] s = true := atoms_spec (ws := Jvm.Cond.code x code maxLocals ret :: tables_1) B.pre
    have hts : ∀ w ∈ lw_tbl, w.before #[Value.ref b] s = true := k2_hts_sels lw_privs (fun w hw => hts0 w (List.mem_cons_of_mem _ hw)) lw_privs_ok
    have hml : c.maxLocals = 4 := B.maxLocals_eq (hts0 _ List.mem_cons_self)
    have X₀ : Stand p l e room_1 s m #[Value.ref b] below meth c s₁ [] 0 0 := Stand.of_body B
    have hh0 : s₁.heap = s.heap := by rw [B.state]; rfl
    have hsz : scr.slots.size = xs.length := by rw [← Array.length_toList, hlist, List.length_map]
    have hval : ∀ j : Nat, j < xs.length → scr.slots[j]? = some (.int (xs.getD j 0)) := fun j hj => by
      rw [← Array.getElem?_toList, hlist]
      simp [hj]
    have hbl : b < s.heap.size := (Array.getElem?_eq_some_iff.mp hcb).1
    have hX : va_X b xs.length (fun j => xs.getD j 0) s s.heap := ⟨scr, hcb, hof, hkn, hsz, hval⟩
    have K : W p l e room_1 s m #[Value.ref b] below meth c s₁.heap [] 0 0 (lw_Z below #[Value.ref b] s) (entryFrame m ([Value.ref b] : List Value).toArray 4) := by
      rw [hh0]
      exact whole_start l hbd ⟨B.exec, B.bytes, B.returns, hml, hown, hts, hX, hbl, B.notSynchronized, hgv⟩
    obtain ⟨t, a1, o, b1, b2, b3⟩ := K s₁ rfl X₀
    exact ⟨t, o, a1, b1, b2, b3⟩
theorem lw_pre_spec {args : Array Value} {s : State} (h : (Jvm.Cond.and given_1 narrow_1).before args s = true) (hr : rest_1_c.before args s = true) : ∃ (b : Addr) (xs : List Int32), lw_P b xs args s := by
  have hs := flat_of_before _ h
  have hq := flat_of_before _ hr
  have hc : (Cond.count 1).before args s = true := hs _ (by decide +kernel)
  have harr : (Cond.arrayOf (.arg 0) .int).before args s = true := hs _ (by decide +kernel)
  have hle : (Cond.le (.length (.arg 0)) (.int 320)).before args s = true := hs _ (by decide +kernel)
  have hlen : (Cond.isInt (.length (.arg 0))).before args s = true := hq _ (by decide +kernel)
  have hall : (Cond.all (.arg 0) (.isInt (.elem (.arg 0) (.index 0)))).before args s = true := hq _ (by decide +kernel)
  obtain ⟨b, xs, hb, hx⟩ := State.ints_of_pre rfl harr hlen hall
  have hsm : xs.length < 2 ^ 31 := hx.choose_spec.2.2.2
  have hev : (Term.length (.arg 0)).eval args s none [] s = some (.int xs.length.toInt32) := hx.length_eval hb
  have hv := Cond.le_ints hev (show (Term.int 320).eval args s none [] s = some (.int 320) from rfl)
  have hd : xs.length.toInt32 ≤ 320 := by
    simpa [Cond.before, Cond.holds, hv] using hle
  have hN : xs.length ≤ 320 := (Int32.ofNat_le_ofNat hsm (by decide)).mp (show Int32.ofNat xs.length ≤ Int32.ofNat 320 from hd)
  exact ⟨b, xs, Cond.one_arg hc (show args[0]? = some (.ref b) from hb), hx, hN, h⟩
theorem lw_comes (l : Launch) : Comes l x (Jvm.Cond.code x code maxLocals ret :: tables_1) room_1 (fun tb e args s => Calls_1 tb e args s ∧ rest_1 tb e args s ∧ Pre_1 tb e args s)
    (fun _ _ args s o t => lw_Q args s o t) := by
  intro p e ha hc hk s m args below hf hfit hheap happ hpre
  obtain ⟨b, xs, hP⟩ := lw_pre_spec hpre.2.2 hpre.2.1
  obtain ⟨k, o, h1, h2, h3, hQ⟩ := lw_walk l b xs p e ha hc hk s m args below hf ((Spec.applies_iff_loose hf).mp happ).1 hP trivial
  exact ⟨k, o, h1, h2, h3, hQ⟩
theorem lw_frame {s t : State} {o : Outcome} {args : Array Value} (h : Framed s o t [] 600000 7302250) :
    Framed s o t (fieldLocs frame_1_writes args s ++ arrayLocs frame_1_arrays args s ++ staticLocs frame_1_statics s) 600000 7302250 := h
theorem lw_limb (L : Cond) (hL : ∀ (args : Array Value) (s t : State), L.after args s (.returned (some (.int 1))) t = true) :
    ArmFor flags0 classFile x code maxLocals ret World_1 tables_1 room_1 Calls_1 rest_1 Pre_1
      (fun tb e a s o t => postC L tb e a s o t ∧ Framed s o t (fieldLocs frame_1_writes a s ++ arrayLocs frame_1_arrays a s ++ staticLocs frame_1_statics s) 600000 7302250) := by
  intro l _ _ _ p e ha hc hk s m args below hf hfit hheap happ hpre
  obtain ⟨k, o, h1, h2, h3, rfl, hF⟩ := lw_comes l p e ha hc hk s m args below hf hfit hheap happ hpre
  exact ⟨k, _, h1, h2, h3, hL args s _, lw_frame hF⟩
theorem i_vc : Claimed_1_1 ∧ Claimed_1_2 := ⟨lw_limb limb_1_1 (fun args s t => by simp [limb_1_1, Cond.after, Cond.holds, Cond.value]), lw_limb limb_1_2 (fun args s t => Cond.after_iff.mpr (by
  first | (rw [show limb_1_2 = Cond.eq .result (.int 1) from rfl, Cond.eq_ints (x := 1) (y := 1) rfl rfl]; simp; done) | (simp [limb_1_2, Cond.value, Term.eval]; done)))⟩
