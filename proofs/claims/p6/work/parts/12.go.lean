-- THE WORDS: those of the tables that a call hands on
def tq_tbl : List Cond := lw_tbl.filter goodWord
theorem tq_mem {w : Cond} (h : w ∈ lw_tbl) (hg : goodWord w = true) : w ∈ tq_tbl := List.mem_filter.mpr ⟨h, hg⟩
abbrev tq_ws (y : MethodName) (cc : ByteArray) (n : Nat) (ret : Option FieldType) : List Cond := Cond.code y cc n ret :: tq_tbl
abbrev tq_rm (k : Nat) : Room := { frames := k, cells := 0, slots := 0, locals := 100 * k }
-- WHAT NOBODY WRITES: the static array BRIMS, the constant texts
abbrev tq_Zl : Type := Nat × (Nat → Nat) × (Nat → Nat) × Option Nat
def tq_brL : List Int32 := [10, 5, 4, 20]
def tq_txL : List (Nat × String) := [(110, "plain"), (112, "soft"), (114, "sham"), (116, "dry"), (118, "room"), (119, "think"), (120, "plan")]
def tq_byt : List (List Int32) := [[112, 108, 97, 105, 110], [115, 111, 102, 116], [115, 104, 97, 109], [100, 114, 121], [114, 111, 111, 109], [116, 104, 105, 110, 107], [112, 108, 97, 110]]
def tq_len : List Nat := [5, 4, 4, 3, 4, 5, 4]
def tq_Z (z : tq_Zl) (A : Nat → Prop) (U : State) (H : Heap) : Prop :=
  va_Z "TearsQueue" "BRIMS" "[I" (.ref z.1) A U H ∧ va_T .int z.1 4 (fun j => .int (tq_brL.getD j 0)) A U H ∧ va_Nw (.fieldLinkNest RX1 72 "TearsQueue" "BRIMS" "[I" "TearsQueue") U ∧
  vk_S 7 tq_len tq_byt z.2.1 z.2.2.1 A U H ∧ (∀ i, i < 7 → vk_R RX5 (tq_txL.getD i (0, "")).1 (tq_txL.getD i (0, "")).2 (z.2.1 i) U) ∧ va_Z "java/lang/String" "COMPACT_STRINGS" "Z" (.int 1) A U H ∧ va_Z "jdk/internal/util/Preconditions" "SIOOBE_FORMATTER" "Ljava/util/function/BiFunction;" (va_rf z.2.2.2) A U H
theorem tq_Z.to {z : tq_Zl} {A : Nat → Prop} {s U : State} {H : Heap} {locs : List Loc} (h : tq_Z z A s s.heap) (hS : va_S A s.heap H locs) (hU : U.heap = H) (hW : s.WarmedH U.vm) : tq_Z z A U U.heap := by
  obtain ⟨h1, h2, h3, h4, h5, h6, h7⟩ := h
  rw [hU]
  exact ⟨(h1.kept hS.2.1).moved hW.alike, (h2.kept hS.2.1).moved hW.alike, va_Nw.warmF hW h3, (h4.kept hS.2.1).moved hW.alike, fun i hi => vk_R.warm hW (h5 i hi), (h6.kept hS.2.1).moved hW.alike, (h7.kept hS.2.1).moved hW.alike⟩
theorem tq_Z.blind {z : tq_Zl} {A : Nat → Prop} {U : State} (g : JFrame) (mk : MethodId) (a : Array Value) (h : tq_Z z A U U.heap) : tq_Z z A (U.calling g mk a) (U.calling g mk a).heap := by
  obtain ⟨h1, h2, h3, h4, h5, h6, h7⟩ := h
  have hv : U.vm.Alike (U.calling g mk a).vm := Vm.Alike.refl U.vm
  exact ⟨h1.moved hv, h2.moved hv, va_Nw.same rfl rfl h3, h4.moved hv, fun i hi => vk_R.same rfl (h5 i hi), h6.moved hv, h7.moved hv⟩
-- A METHOD'S START AND END
def tq_Pre (a : tq_La) (z : tq_Zl) (A : Nat → Prop) (S : tq_St) (U : State) : Prop := va_P a.2.1 vwCl (tq_W a S) U.heap ∧ va_K a.2.1 vwCl (tq_ty a) U ∧ va_D A (tq_W a S) ∧ tq_Z z A U U.heap
def tq_Post (a : tq_La) (A : Nat → Prop) (S : tq_St) (t : State) : Prop := va_P a.2.1 vwCl (tq_W a S) t.heap ∧ va_D A (tq_W a S)
theorem tq_blind {av : List Value} {a : tq_La} {z : tq_Zl} {A : Nat → Prop} {S : tq_St} : FrameBlind (va_Pc av (tq_Pre a z A S)) := by
  intro v U g mk h
  obtain ⟨h0, h1, h2, h3, h4⟩ := h
  exact ⟨h0, h1, va_K.moved (u := U) (U := U.calling g mk v) (Vm.Alike.refl U.vm) h2, h3, h4.blind g mk v⟩
def tq_Mi (y : MethodName) (cc : ByteArray) (n : Nat) (ret : Option FieldType) (k : Nat) (av : tq_La → tq_Zl → List Value) (S : tq_St) (K : Int32 → tq_St → Prop) : Prop :=
  ∀ (l : Launch) (A : Nat → Prop) (a : tq_La) (z : tq_Zl), Met l y (tq_ws y cc n ret) (tq_rm k) (va_Pc (av a z) (tq_Pre a z A S)) (va_Qi K (tq_Post a A) A) 0 0 A
def tq_Ml (y : MethodName) (cc : ByteArray) (n : Nat) (ret : Option FieldType) (k : Nat) (av : tq_La → tq_Zl → List Value) (S : tq_St) (K : Int64 → tq_St → Prop) : Prop :=
  ∀ (l : Launch) (A : Nat → Prop) (a : tq_La) (z : tq_Zl), Met l y (tq_ws y cc n ret) (tq_rm k) (va_Pc (av a z) (tq_Pre a z A S)) (va_Ql K (tq_Post a A) A) 0 0 A
def tq_Mv (y : MethodName) (cc : ByteArray) (n : Nat) (ret : Option FieldType) (k : Nat) (av : tq_La → tq_Zl → List Value) (S : tq_St) (K : tq_St → Prop) : Prop :=
  ∀ (l : Launch) (A : Nat → Prop) (a : tq_La) (z : tq_Zl), Met l y (tq_ws y cc n ret) (tq_rm k) (va_Pc (av a z) (tq_Pre a z A S)) (va_Qv K (tq_Post a A) A) 0 0 A
/-- the answer is the i-th constant text -/
def tq_Mr (y : MethodName) (cc : ByteArray) (n : Nat) (ret : Option FieldType) (k : Nat) (av : tq_La → tq_Zl → List Value) (S : tq_St) (K : Nat → tq_St → Prop) : Prop :=
  ∀ (l : Launch) (A : Nat → Prop) (a : tq_La) (z : tq_Zl), Met l y (tq_ws y cc n ret) (tq_rm k) (va_Pc (av a z) (tq_Pre a z A S)) (va_Qr (fun u : Nat × tq_St => K u.1 u.2) (fun u q t => q = z.2.1 u.1 ∧ tq_Post a A u.2 t) A) 0 0 A
-- THE MACHINE AT A METHOD'S BODY
abbrev tq_Cx : Type := Program × Launch × Env × Room × State × MethodId × Array Value × List Frame × Method × Code × (Nat → Prop) × tq_La × tq_Zl × (Nat × Nat) × (State → Prop)
def tq_la (X : tq_Cx) : tq_La := X.2.2.2.2.2.2.2.2.2.2.2.1
def tq_zl (X : tq_Cx) : tq_Zl := X.2.2.2.2.2.2.2.2.2.2.2.2.1
/-- what holds at a method's body: its code, its class, its room; the last pair: the cells and slots made so far -/
def tq_C (X : tq_Cx) (cc : ByteArray) (nL : Nat) (own : String) (k : Nat) : Prop := match X with
  | (p, _, _, R, s, m, args, _, meth, c, A, a, z, Q) => p.tables.exec = Jvm.exec ∧ c.code = cc ∧ c.maxLocals = nL ∧ s.vm.findClass own = some m.cls ∧ (∀ w ∈ tq_tbl, w.before args s = true) ∧ va_K a.2.1 vwCl (tq_ty a) s ∧ tq_Z z A s s.heap ∧ (k ≤ R.frames ∧ 100 * k ≤ R.locals ∧ Q.1.1 ≤ R.cells ∧ Q.1.2 ≤ R.slots) ∧ meth.locks = false
/-- from here the machine comes to its end -/
def Go (X : tq_Cx) (nL : Nat) (S : tq_St) (pc : Nat) (lv : List (Nat × Value)) (st : List Value) : Prop := match X with
  | (p, l, e, R, s, m, args, below, meth, c, A, a, _, Q) => ∀ (H : Heap) (locs : List Loc) (ls : Array Slot), va_P a.2.1 vwCl (tq_W a S) H → va_D A (tq_W a S) → va_S A s.heap H locs → lv_has ls nL lv → W p l e R s m args below meth c H locs Q.1.1 Q.1.2 Q.2 (F0 m pc ls st)
-- THE ENDS
def tq_Ri (X : tq_Cx) (cc : ByteArray) (nL : Nat) (K : Int32 → tq_St → Prop) : Prop := ∀ (r : Int32) (S : tq_St) (pc : Nat) (lv : List (Nat × Value)), decode cc pc = .ok (.ireturn, 1) → K r S → Go X nL S pc lv [.int r]
def tq_Rl (X : tq_Cx) (cc : ByteArray) (nL : Nat) (K : Int64 → tq_St → Prop) : Prop := ∀ (r : Int64) (S : tq_St) (pc : Nat) (lv : List (Nat × Value)), decode cc pc = .ok (.lreturn, 1) → K r S → Go X nL S pc lv [.long r]
def tq_Rv (X : tq_Cx) (cc : ByteArray) (nL : Nat) (K : tq_St → Prop) : Prop := ∀ (S : tq_St) (pc : Nat) (lv : List (Nat × Value)), decode cc pc = .ok (.return_, 1) → K S → Go X nL S pc lv []
def tq_Rz (X : tq_Cx) (cc : ByteArray) (nL : Nat) (K : Int32 → tq_St → Prop) : Prop := ∀ (r : Int32) (S : tq_St) (pc : Nat) (lv : List (Nat × Value)), decode cc pc = .ok (.ireturn, 1) → (r = 0 ∨ r = 1) → K r S → Go X nL S pc lv [.int r]
def tq_Rr (X : tq_Cx) (cc : ByteArray) (nL : Nat) (K : Nat → tq_St → Prop) : Prop := ∀ (i : Nat) (S : tq_St) (pc : Nat) (lv : List (Nat × Value)), decode cc pc = .ok (.areturn, 1) → K i S → Go X nL S pc lv [.ref ((tq_zl X).2.1 i)]
-- A CONTRACT OUT OF A WALK
section MK
variable {y : MethodName} {cc : ByteArray} {n k : Nat} {av : tq_La → tq_Zl → List Value} {S : tq_St}
theorem tq_mk {ret : Option FieldType} (hy : plainName y.cls = true) (hlen : ∀ a z, (lg_sl (av a z)).length ≤ n) {Qc : tq_La → tq_Zl → (Nat → Prop) → Array Value → State → Outcome → State → Prop}
    (h : ∀ X : tq_Cx, tq_C X cc n y.cls k → (∃ (s : State) (args : Array Value) (below : List Frame), X.2.2.2.2.1 = s ∧ X.2.2.2.2.2.2.1 = args ∧ X.2.2.2.2.2.2.2.2.1.sig.returnType = ret ∧ X.2.2.2.2.2.2.2.2.2.2.2.2.2 = ((0, 0), MQ below (Qc (tq_la X) (tq_zl X) X.2.2.2.2.2.2.2.2.2.2.1) args s 0 0 X.2.2.2.2.2.2.2.2.2.2.1) ∧ X.2.2.2.2.2.2.2.1 = below) → Go X n S 0 (lv_args 0 (av (tq_la X) (tq_zl X))) []) :
    ∀ (l : Launch) (A : Nat → Prop) (a : tq_La) (z : tq_Zl), Met l y (tq_ws y cc n ret) (tq_rm k) (va_Pc (av a z) (tq_Pre a z A S)) (Qc a z A) 0 0 A := by
  intro l A a z
  refine Met.ofW (cc := cc) (maxL := n) (ret := ret) hy rfl ?_
  intro p e s m args below meth c s₁ B hml hv
  obtain ⟨rfl, hP, hK, hD, hZ⟩ := hv
  have hts := atoms_spec (ws := tq_ws y cc n ret) B.pre
  have hown : s.vm.findClass y.cls = some m.cls := findClass_of_methodNamed B.named
  have hg := h (p, l, e, (headSpec (tq_ws y cc n ret) (tq_rm k)).room, s, m, (av a z).toArray, below, meth, c, A, a, z, (0, 0), MQ below (Qc a z A) (av a z).toArray s 0 0 A) ⟨B.exec, B.bytes, hml, hown, fun w hw => hts w (List.mem_cons_of_mem _ hw), hK, hZ, ⟨Nat.le_refl _, Nat.le_refl _, Nat.zero_le _, Nat.zero_le _⟩, B.notSynchronized⟩ ⟨s, _, below, rfl, rfl, B.returns, rfl, rfl⟩
  have hl := lv_entry (av a z) (n := n) (hlen a z)
  rw [lg_entry_eq]
  exact hg s.heap [] _ hP hD va_S.rf hl
end MK
