-- WHAT THE START GIVES
def lw_tm (i : Nat) : Term := .string RX5 (tq_txL.getD i (0, "")).1
def lw_flat : List Cond := flatC (Jvm.Cond.and given_1 narrow_1)
theorem lw_m1 : ∀ i, i < 7 → Cond.exactly (lw_tm i) "java/lang/String" ∈ lw_flat := by decide +kernel
theorem lw_m2 : ∀ i, i < 7 → Cond.eq (.field (lw_tm i) "java/lang/String" "coder" "B") (.int 0) ∈ lw_flat := by decide +kernel
theorem lw_m3 : ∀ i, i < 7 → Cond.arrayOf (.field (lw_tm i) "java/lang/String" "value" "[B") .byte ∈ lw_flat := by decide +kernel
theorem lw_m4 : ∀ i, i < 7 → Cond.eq (.length (.field (lw_tm i) "java/lang/String" "value" "[B")) (.int (Int32.ofNat (tq_len.getD i 0))) ∈ lw_flat := by decide +kernel
theorem lw_m5 : ∀ i, i < 7 → ∀ j, j < tq_len.getD i 0 → Cond.eq (.elem (.field (lw_tm i) "java/lang/String" "value" "[B") (.int (Int32.ofNat j))) (.int ((tq_byt.getD i []).getD j 0)) ∈ lw_flat := by decide +kernel
theorem lw_m6 : ∀ i, i < 7 → ∀ j, j < 7 → i ≠ j → Cond.not (Cond.eq (lw_tm i) (lw_tm j)) ∈ lw_flat ∨ Cond.not (Cond.eq (lw_tm j) (lw_tm i)) ∈ lw_flat := by decide +kernel
theorem lw_m7 : ∀ i, i < 7 → Cond.stringRef RX5 (tq_txL.getD i (0, "")).1 (tq_txL.getD i (0, "")).2 ∈ lw_tbl := by decide +kernel
theorem lw_m8 : ∀ j, j < 4 → Cond.eq (.elem (.static "TearsQueue" "BRIMS" "[I") (.int (Int32.ofNat j))) (.int (tq_brL.getD j 0)) ∈ lw_flat := by decide +kernel
theorem lw_m9 : ∀ q ∈ tq_nl, Cond.methodLinkNest q.1 q.2.1 ⟨q.2.2, "<init>", "()V"⟩ "TearsQueue" ∈ lw_tbl := by decide +kernel
theorem lw_Zs {s : State} {b : Nat} (hts : ∀ w ∈ lw_tbl, w.before #[Value.ref b] s = true) (hgv : (Jvm.Cond.and given_1 narrow_1).before #[Value.ref b] s = true) : ∃ z : tq_Zl, tq_Z z (fun q => s.heap.size ≤ q) s s.heap := by
  have hs : ∀ w ∈ lw_flat, w.before #[Value.ref b] s = true := flat_of_before _ hgv
  have hA : ∀ a : Nat, a < s.heap.size → ¬ (fun q : Nat => s.heap.size ≤ q) a := fun a h => Nat.not_le.mpr h
  obtain ⟨t, ht, hT⟩ := va_Tof (tm := .static "TearsQueue" "BRIMS" "[I") (ty := .int) (N := 4) (f := fun j => .int (tq_brL.getD j 0)) (A := fun q : Nat => s.heap.size ≤ q) (by decide) (hs _ (by decide +kernel)) (va_eqt (hs _ (by decide +kernel))) (fun j hj => va_eqt (hs _ (lw_m8 j hj))) hA
  have hB := va_Zof (C := "TearsQueue") (n := "BRIMS") (d := "[I") (A := fun q : Nat => s.heap.size ≤ q) (hts _ (by decide +kernel)) (hts _ (by decide +kernel)) ht hA
  have hC := va_Zof (C := "java/lang/String") (n := "COMPACT_STRINGS") (d := "Z") (v := .int 1) (A := fun q : Nat => s.heap.size ≤ q) (hts _ (by decide +kernel)) (hts _ (by decide +kernel)) (va_eqt (hs _ (by decide +kernel))) hA
  have hP := va_Zqof (C := "jdk/internal/util/Preconditions") (n := "SIOOBE_FORMATTER") (d := "Ljava/util/function/BiFunction;") (A := fun q : Nat => s.heap.size ≤ q) (hts _ (by decide +kernel)) (hts _ (by decide +kernel)) (hs _ (by decide +kernel)) hA
  obtain ⟨r, hr⟩ : ∃ r : Option Nat, va_Z "jdk/internal/util/Preconditions" "SIOOBE_FORMATTER" "Ljava/util/function/BiFunction;" (va_rf r) (fun q : Nat => s.heap.size ≤ q) s s.heap := by
    rcases hP with h | ⟨t, h⟩
    · exact ⟨none, h⟩
    · exact ⟨some t, h⟩
  obtain ⟨adK, adV, hV, hev⟩ := vk_Sof (N := 7) (tm := lw_tm) (len := tq_len) (byt := tq_byt) (A := fun q : Nat => s.heap.size ≤ q) (args := #[Value.ref b]) (s := s) (by decide) (fun i hi => hs _ (lw_m1 i hi)) (fun i hi => hs _ (lw_m2 i hi)) (fun i hi => hs _ (lw_m3 i hi)) (fun i hi => hs _ (lw_m4 i hi)) (fun i hi j hj => hs _ (lw_m5 i hi j hj)) (fun i j hi hj hij => (lw_m6 i hi j hj hij).imp (hs _) (hs _)) hA
  exact ⟨(t, adK, adV, r), hB, hT, va_Nw.of rfl (hts _ (by decide +kernel)), hV, fun i hi => vk_R.of (hts _ (lw_m7 i hi)) (hev i hi), hC, hr⟩
theorem lw_Ns {s : State} {b : Nat} (hts : ∀ w ∈ lw_tbl, w.before #[Value.ref b] s = true) : tq_N s :=
  ⟨fun q hq => va_Nw.of rfl (hts _ (lw_m9 q hq)), va_AO.of (hts _ (by decide +kernel)), va_AO.of (hts _ (by decide +kernel))⟩
theorem lw_arr {s : State} {ty : FieldType} {args : Array Value} (h : (Cond.arrayClass ty).before args s = true) : ∃ c : ClassId, ArrOfT s c ty ∧ s.vm.findClass ("[" ++ ty.toString) = some c := by
  obtain ⟨c, k, comp, h1, h2, h3⟩ := Cond.arrayClass_spec h
  exact ⟨c, fun n z => ⟨fun k h => (by cases h), k, h2, comp, h3⟩, h1⟩
theorem lw_arrO {s : State} {C : String} (h : va_AO C s) : ∃ c : ClassId, ArrOfT s c (.object C) ∧ va_RA s c (.object C) := by
  obtain ⟨comp, c, k, h1, -, h3, h4, h5⟩ := Cond.arrayOver_spec h
  exact ⟨c, fun n z => ⟨fun k h => (by cases h), k, h3, comp, h4⟩, k, comp, h3, h4, h1, h5⟩
theorem lw_Ks {s : State} {b : Nat} (hts : ∀ w ∈ lw_tbl, w.before #[Value.ref b] s = true) : ∃ (D : va_G) (tf : Nat → ClassId), ∀ f, va_K D vwCl (tq_ty (f, D, tf)) s := by
  have hq : ∀ w ∈ tq_tbl, w.before #[Value.ref b] s = true := fun w hw => hts w (List.mem_filter.mp hw).1
  have k0 := u_known (C := RX0) (T := TX0) (N := 3) (n := 3) hq itX0 (hts (.instantiable RX0 3) (by decide +kernel))
  have k1 := u_known (C := RX1) (T := TX1) (N := 14) (n := 14) hq itX1 (hts (.instantiable RX1 14) (by decide +kernel))
  have k2 := u_known (C := RX2) (T := TX2) (N := 6) (n := 6) hq itX2 (hts (.instantiable RX2 6) (by decide +kernel))
  have k3 := u_known (C := RX3) (T := TX3) (N := 4) (n := 4) hq itX3 (hts (.instantiable RX3 4) (by decide +kernel))
  have k4 := u_known (C := RX4) (T := TX4) (N := 3) (n := 3) hq itX4 (hts (.instantiable RX4 3) (by decide +kernel))
  have k5 := u_known (C := RX5) (T := TX5) (N := 10) (n := 10) hq itX5 (hts (.instantiable RX5 10) (by decide +kernel))
  have k6 := u_known (C := RX6) (T := TX6) (N := 11) (n := 11) hq itX6 (hts (.instantiable RX6 11) (by decide +kernel))
  have k7 := u_known (C := RX7) (T := TX7) (N := 29) (n := 29) hq itX7 (hts (.instantiable RX7 29) (by decide +kernel))
  have h0 : ∀ c : Nat, ∃ p : ClassId × (Nat → Nat), ∀ q : vw_C, vwCl[c]? = some q → u_Kn s q.1 q.2.1 q.2.2 p.1 p.2 := by
    intro c
    match c with
    | 0 => obtain ⟨x, y, h⟩ := k0; exact ⟨(x, y), fun q e => by cases e; exact h⟩
    | 1 => obtain ⟨x, y, h⟩ := k1; exact ⟨(x, y), fun q e => by cases e; exact h⟩
    | 2 => obtain ⟨x, y, h⟩ := k2; exact ⟨(x, y), fun q e => by cases e; exact h⟩
    | 3 => obtain ⟨x, y, h⟩ := k3; exact ⟨(x, y), fun q e => by cases e; exact h⟩
    | 4 => obtain ⟨x, y, h⟩ := k4; exact ⟨(x, y), fun q e => by cases e; exact h⟩
    | 5 => obtain ⟨x, y, h⟩ := k5; exact ⟨(x, y), fun q e => by cases e; exact h⟩
    | 6 => obtain ⟨x, y, h⟩ := k6; exact ⟨(x, y), fun q e => by cases e; exact h⟩
    | 7 => obtain ⟨x, y, h⟩ := k7; exact ⟨(x, y), fun q e => by cases e; exact h⟩
    | c + 8 => obtain ⟨x, y, h⟩ := k0; exact ⟨(x, y), fun q e => by simp at e⟩
  obtain ⟨g, hg⟩ := Classical.axiomOfChoice h0
  obtain ⟨c0, e0, n0⟩ := lw_arr (ty := .int) (hts _ (by decide +kernel))
  obtain ⟨c1, e1, n1⟩ := lw_arr (ty := .byte) (hts _ (by decide +kernel))
  obtain ⟨c2, e2, n2⟩ := lw_arr (ty := .boolean) (hts _ (by decide +kernel))
  obtain ⟨c3, e3, n3⟩ := lw_arr (ty := .long) (hts _ (by decide +kernel))
  obtain ⟨c4, e4, n4⟩ := lw_arrO (C := "TearsQueue$Evening") (lw_Ns hts).2.1
  obtain ⟨c5, e5, n5⟩ := lw_arrO (C := "TearsQueue$Sheet") (lw_Ns hts).2.2
  refine ⟨(fun c => (g c).1, fun c => (g c).2), fun i => [c0, c1, c2, c3, c4, c5].getD i c0, fun f => ⟨fun c q e => hg c q e, fun k q e => ?_⟩⟩
  match k with
  | 0 => cases e; exact ⟨e0, n0⟩
  | 1 => cases e; exact ⟨e1, n1⟩
  | 2 => cases e; exact ⟨e2, n2⟩
  | 3 => cases e; exact ⟨e3, n3⟩
  | 4 => cases e; exact ⟨e4, n4⟩
  | 5 => cases e; exact ⟨e5, n5⟩
  | k + 6 => simp [tq_ty] at e
