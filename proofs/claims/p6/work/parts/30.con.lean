-- CONSTRUCTORS: the world is a list that grows
/-- the links of nest mates' constructors -/
def tq_nl : List (String × Nat × String) := [("TearsQueue", 21, "TearsQueue$Tape"), ("TearsQueue", 28, "TearsQueue$Sightings"), ("TearsQueue", 65, "TearsQueue$Sheet"), ("TearsQueue", 9, "TearsQueue$Evening"), ("TearsQueue$Chances", 21, "TearsQueue$Evening"), ("TearsQueue$Rows", 24, "TearsQueue$Evening"), ("TearsQueue$Tape", 17, "TearsQueue$Evening")]
def tq_N (U : State) : Prop := (∀ q ∈ tq_nl, va_Nw (.methodLinkNest q.1 q.2.1 ⟨q.2.2, "<init>", "()V"⟩ "TearsQueue") U) ∧ va_AO "TearsQueue$Evening" U ∧ va_AO "TearsQueue$Sheet" U
theorem tq_N.warm {s U : State} (hW : s.WarmedH U.vm) (h : tq_N s) : tq_N U := ⟨fun q hq => va_Nw.warmM hW (h.1 q hq), va_AO.moved hW.alike h.2.1, va_AO.moved hW.alike h.2.2⟩
theorem tq_N.same {u U : State} (hv : u.vm = U.vm) (h : tq_N u) : tq_N U := ⟨fun q hq => va_Nw.same rfl hv (h.1 q hq), va_AO.moved (hv ▸ Vm.Alike.refl _) h.2.1, va_AO.moved (hv ▸ Vm.Alike.refl _) h.2.2⟩
/-- what holds at a constructor's body -/
def tq_D (X : tq_Cx) (cc : ByteArray) (nL : Nat) (own : String) (k : Nat) : Prop := match X with
  | (p, _, _, R, s, m, args, _, meth, c, A, a, _, Q) => p.tables.exec = Jvm.exec ∧ c.code = cc ∧ c.maxLocals = nL ∧ s.vm.findClass own = some m.cls ∧ (∀ w ∈ tq_tbl, w.before args s = true) ∧ va_K a.2.1 vwCl (tq_ty a) s ∧ (k ≤ R.frames ∧ 100 * k ≤ R.locals ∧ Q.1.1 ≤ R.cells ∧ Q.1.2 ≤ R.slots) ∧ (∀ q, s.heap.size ≤ q → A q) ∧ meth.name = "<init>" ∧ meth.locks = false ∧ tq_N s
def GoN (X : tq_Cx) (nL : Nat) (ws : va_W) (nc ns : Nat) (pc : Nat) (lv : List (Nat × Value)) (st : List Value) : Prop := match X with
  | (p, l, e, R, s, m, args, below, meth, c, A, a, _, Q) => ∀ (H : Heap) (locs : List Loc) (ls : Array Slot), va_P a.2.1 vwCl ws H → va_D A ws → va_S A s.heap H locs → lv_has ls nL lv → W p l e R s m args below meth c H locs nc ns Q.2 (F0 m pc ls st)
-- the world as a set
theorem va_P_mem {D : va_G} {cl : List vw_C} {ws : va_W} {H : Heap} : va_P D cl ws H ↔ ∀ q ∈ ws, va_at D cl q H := by
  constructor
  · intro h q hq
    obtain ⟨k, hk⟩ := List.mem_iff_getElem?.mp hq
    exact h k q hk
  · intro h k q hk
    exact h q (List.mem_of_getElem? hk)
theorem va_D_mem {A : Nat → Prop} {ws : va_W} : va_D A ws ↔ (ws.map (fun q => q.1)).Nodup ∧ ∀ q ∈ ws, A q.1 := by
  constructor
  · intro ⟨h1, h2⟩
    refine ⟨?_, fun q hq => ?_⟩
    · rw [List.nodup_iff_pairwise_ne, List.pairwise_iff_getElem]
      intro i j hi hj hij e
      simp only [List.length_map] at hi hj
      simp only [List.getElem_map] at e
      have := h1 i j ws[i] ws[j] (List.getElem?_eq_getElem hi) (List.getElem?_eq_getElem hj) e
      omega
    · obtain ⟨k, hk⟩ := List.mem_iff_getElem?.mp hq
      exact h2 k q hk
  · intro ⟨h1, h2⟩
    refine ⟨fun i j p q hi hj e => ?_, fun k q hk => h2 q (List.mem_of_getElem? hk)⟩
    refine tq_ndi h1 (x := p.1) ?_ ?_
    · simp [hi]
    · simp [hj, e]
theorem va_P.perm {D : va_G} {cl : List vw_C} {ws ws' : va_W} {H : Heap} (h : va_P D cl ws H) (hp : ws.Perm ws') : va_P D cl ws' H := va_P_mem.mpr (fun q hq => va_P_mem.mp h q (hp.mem_iff.mpr hq))
theorem va_D.perm {A : Nat → Prop} {ws ws' : va_W} (h : va_D A ws) (hp : ws.Perm ws') : va_D A ws' := by
  obtain ⟨h1, h2⟩ := va_D_mem.mp h
  exact va_D_mem.mpr ⟨(hp.map _).nodup_iff.mp h1, fun q hq => h2 q (hp.mem_iff.mpr hq)⟩
