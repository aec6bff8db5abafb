section
-- WHAT THE START GIVES
def lw_tm (i : Nat) : Term := .string RX5 (tq_txL.getD i (0, "")).1
def lw_flat : List Cond := flatC (Jvm.Cond.and given_1 narrow_1)
theorem lw_m1 : ∀ i, i < 7 → Cond.exactly (lw_tm i) "java/lang/String" ∈ lw_flat := by decide +kernel
theorem lw_m2 : ∀ i, i < 7 → Cond.eq (.field (lw_tm i) "java/lang/String" "coder" "B") (.int 0) ∈ lw_flat := by decide +kernel
theorem lw_m3 : ∀ i, i < 7 → Cond.arrayOf (.field (lw_tm i) "java/lang/String" "value" "[B") .byte ∈ lw_flat := by decide +kernel
theorem lw_m4 : ∀ i, i < 7 → Cond.eq (.length (.field (lw_tm i) "java/lang/String" "value" "[B")) (.int (Int32.ofNat (tq_len.getD i 0))) ∈ lw_flat := by decide +kernel
theorem lw_m5 : ∀ i, i < 7 → ∀ j, j < tq_len.getD i 0 → Cond.eq (.elem (.field (lw_tm i) "java/lang/String" "value" "[B") (.int (Int32.ofNat j))) (.int ((tq_byt.getD i []).getD j 0)) ∈ lw_flat := by decide +kernel
theorem lw_m6 : ∀ i, i < 7 → ∀ j, j < 7 → i ≠ j → Cond.not (Cond.eq (lw_tm i) (lw_tm j)) ∈ lw_flat ∨ Cond.not (Cond.eq (lw_tm j) (lw_tm i)) ∈ lw_flat := by decide +kernel
theorem lw_m7 : ∀ i, i < 7 → Cond.stringRef RX5 (tq_txL.getD i (0, "")).1 (tq_txL.getD i (0, "")).2 ∈ lw_tbl := by decide +kernel
theorem lw_m8 : ∀ j, j < 4 → Cond.eq (.elem (.static "TearsQueue" "BRIMS" "[I") (.int (Int32.ofNat j))) (.int (tq_brL.getD j 0)) ∈ lw_flat := by decide +kernel
theorem lw_m9 : ∀ q ∈ tq_nl, Cond.methodLinkNest q.1 q.2.1 ⟨q.2.2, "<init>", "()V"⟩ "TearsQueue" ∈ lw_tbl := by decide +kernel
theorem lw_Zs {s : State} {b : Nat} (hts : ∀ w ∈ lw_tbl, w.before #[Value.ref b] s = true) (hgv : (Jvm.Cond.and given_1 narrow_1).before #[Value.ref b] s = true) : ∃ z : tq_Zl, tq_Z z (fun q => s.heap.size ≤ q) s s.heap := by
  have hs : ∀ w ∈ lw_flat, w.before #[Value.ref b] s = true := flat_of_before _ hgv
  have hA : ∀ a : Nat, a < s.heap.size → ¬ (fun q : Nat => s.heap.size ≤ q) a := fun a h => Nat.not_le.mpr h
  obtain ⟨t, ht, hT⟩ := va_Tof (tm := .static "TearsQueue" "BRIMS" "[I") (ty := .int) (N := 4) (f := fun j => .int (tq_brL.getD j 0)) (A := fun q : Nat => s.heap.size ≤ q) (by decide) (hs _ (by decide +kernel)) (va_eqt (hs _ (by decide +kernel))) (fun j hj => va_eqt (hs _ (lw_m8 j hj))) hA
  have hB := va_Zof (C := "TearsQueue") (n := "BRIMS") (d := "[I") (A := fun q : Nat => s.heap.size ≤ q) (hts _ (by decide +kernel)) (hts _ (by decide +kernel)) ht hA
  have hC := va_Zof (C := "java/lang/String") (n := "COMPACT_STRINGS") (d := "Z") (v := .int 1) (A := fun q : Nat => s.heap.size ≤ q) (hts _ (by decide +kernel)) (hts _ (by decide +kernel)) (va_eqt (hs _ (by decide +kernel))) hA
  have hP := va_Zqof (C := "jdk/internal/util/Preconditions") (n := "SIOOBE_FORMATTER") (d := "Ljava/util/function/BiFunction;") (A := fun q : Nat => s.heap.size ≤ q) (hts _ (by decide +kernel)) (hts _ (by decide +kernel)) (hs _ (by decide +kernel)) hA
  obtain ⟨r, hr⟩ : ∃ r : Option Nat, va_Z "jdk/internal/util/Preconditions" "SIOOBE_FORMATTER" "Ljava/util/function/BiFunction;" (va_rf r) (fun q : Nat => s.heap.size ≤ q) s s.heap := by
    rcases hP with h | ⟨t, h⟩
    · exact ⟨none, h⟩
    · exact ⟨some t, h⟩
  obtain ⟨adK, adV, hV, hev⟩ := vk_Sof (N := 7) (tm := lw_tm) (len := tq_len) (byt := tq_byt) (A := fun q : Nat => s.heap.size ≤ q) (args := #[Value.ref b]) (s := s) (by decide) (fun i hi => hs _ (lw_m1 i hi)) (fun i hi => hs _ (lw_m2 i hi)) (fun i hi => hs _ (lw_m3 i hi)) (fun i hi => hs _ (lw_m4 i hi)) (fun i hi j hj => hs _ (lw_m5 i hi j hj)) (fun i j hi hj hij => (lw_m6 i hi j hj hij).imp (hs _) (hs _)) hA
  exact ⟨(t, adK, adV, r), hB, hT, va_Nw.of rfl (hts _ (by decide +kernel)), hV, fun i hi => vk_R.of (hts _ (lw_m7 i hi)) (hev i hi), hC, hr⟩
theorem lw_Ns {s : State} {b : Nat} (hts : ∀ w ∈ lw_tbl, w.before #[Value.ref b] s = true) : tq_N s :=
  ⟨fun q hq => va_Nw.of rfl (hts _ (lw_m9 q hq)), va_AO.of (hts _ (by decide +kernel)), va_AO.of (hts _ (by decide +kernel))⟩
theorem lw_arr {s : State} {ty : FieldType} {args : Array Value} (h : (Cond.arrayClass ty).before args s = true) : ∃ c : ClassId, ArrOfT s c ty ∧ s.vm.findClass ("[" ++ ty.toString) = some c := by
  obtain ⟨c, k, comp, h1, h2, h3⟩ := Cond.arrayClass_spec h
  exact ⟨c, fun n z => ⟨fun k h => (by cases h), k, h2, comp, h3⟩, h1⟩
theorem lw_arrO {s : State} {C : String} (h : va_AO C s) : ∃ c : ClassId, ArrOfT s c (.object C) ∧ va_RA s c (.object C) := by
  obtain ⟨comp, c, k, h1, -, h3, h4, h5⟩ := Cond.arrayOver_spec h
  exact ⟨c, fun n z => ⟨fun k h => (by cases h), k, h3, comp, h4⟩, k, comp, h3, h4, h1, h5⟩
theorem lw_Ks {s : State} {b : Nat} (hts : ∀ w ∈ lw_tbl, w.before #[Value.ref b] s = true) : ∃ (D : va_G) (tf : Nat → ClassId), ∀ f, va_K D vwCl (tq_ty (f, D, tf)) s := by
  have hq : ∀ w ∈ tq_tbl, w.before #[Value.ref b] s = true := fun w hw => hts w (List.mem_filter.mp hw).1
  have k0 := u_known (C := RX0) (T := TX0) (N := 3) (n := 3) hq itX0 (hts (.instantiable RX0 3) (by decide +kernel))
  have k1 := u_known (C := RX1) (T := TX1) (N := 14) (n := 14) hq itX1 (hts (.instantiable RX1 14) (by decide +kernel))
  have k2 := u_known (C := RX2) (T := TX2) (N := 6) (n := 6) hq itX2 (hts (.instantiable RX2 6) (by decide +kernel))
  have k3 := u_known (C := RX3) (T := TX3) (N := 4) (n := 4) hq itX3 (hts (.instantiable RX3 4) (by decide +kernel))
  have k4 := u_known (C := RX4) (T := TX4) (N := 3) (n := 3) hq itX4 (hts (.instantiable RX4 3) (by decide +kernel))
  have k5 := u_known (C := RX5) (T := TX5) (N := 10) (n := 10) hq itX5 (hts (.instantiable RX5 10) (by decide +kernel))
  have k6 := u_known (C := RX6) (T := TX6) (N := 11) (n := 11) hq itX6 (hts (.instantiable RX6 11) (by decide +kernel))
  have k7 := u_known (C := RX7) (T := TX7) (N := 29) (n := 29) hq itX7 (hts (.instantiable RX7 29) (by decide +kernel))
  have h0 : ∀ c : Nat, ∃ p : ClassId × (Nat → Nat), ∀ q : vw_C, vwCl[c]? = some q → u_Kn s q.1 q.2.1 q.2.2 p.1 p.2 := by
    intro c
    match c with
    | 0 => obtain ⟨x, y, h⟩ := k0; exact ⟨(x, y), fun q e => by cases e; exact h⟩
    | 1 => obtain ⟨x, y, h⟩ := k1; exact ⟨(x, y), fun q e => by cases e; exact h⟩
    | 2 => obtain ⟨x, y, h⟩ := k2; exact ⟨(x, y), fun q e => by cases e; exact h⟩
    | 3 => obtain ⟨x, y, h⟩ := k3; exact ⟨(x, y), fun q e => by cases e; exact h⟩
    | 4 => obtain ⟨x, y, h⟩ := k4; exact ⟨(x, y), fun q e => by cases e; exact h⟩
    | 5 => obtain ⟨x, y, h⟩ := k5; exact ⟨(x, y), fun q e => by cases e; exact h⟩
    | 6 => obtain ⟨x, y, h⟩ := k6; exact ⟨(x, y), fun q e => by cases e; exact h⟩
    | 7 => obtain ⟨x, y, h⟩ := k7; exact ⟨(x, y), fun q e => by cases e; exact h⟩
    | c + 8 => obtain ⟨x, y, h⟩ := k0; exact ⟨(x, y), fun q e => by simp at e⟩
  obtain ⟨g, hg⟩ := Classical.axiomOfChoice h0
  obtain ⟨c0, e0, n0⟩ := lw_arr (ty := .int) (hts _ (by decide +kernel))
  obtain ⟨c1, e1, n1⟩ := lw_arr (ty := .byte) (hts _ (by decide +kernel))
  obtain ⟨c2, e2, n2⟩ := lw_arr (ty := .boolean) (hts _ (by decide +kernel))
  obtain ⟨c3, e3, n3⟩ := lw_arr (ty := .long) (hts _ (by decide +kernel))
  obtain ⟨c4, e4, n4⟩ := lw_arrO (C := "TearsQueue$Evening") (lw_Ns hts).2.1
  obtain ⟨c5, e5, n5⟩ := lw_arrO (C := "TearsQueue$Sheet") (lw_Ns hts).2.2
  refine ⟨(fun c => (g c).1, fun c => (g c).2), fun i => [c0, c1, c2, c3, c4, c5].getD i c0, fun f => ⟨fun c q e => hg c q e, fun k q e => ?_⟩⟩
  match k with
  | 0 => cases e; exact ⟨e0, n0⟩
  | 1 => cases e; exact ⟨e1, n1⟩
  | 2 => cases e; exact ⟨e2, n2⟩
  | 3 => cases e; exact ⟨e3, n3⟩
  | 4 => cases e; exact ⟨e4, n4⟩
  | 5 => cases e; exact ⟨e5, n5⟩
  | k + 6 => simp [tq_ty] at e
end
section
-- THE WORLD BEHIND BOTH CONSTRUCTORS IS THE LAW'S WORLD
def lw_evb : List Nat := [0, 6, 14, 27, 33, 39, 45, 51, 60, 66, 72, 78, 84, 90, 96, 102, 108, 118, 124]
def lw_jx : List Nat := [0, 0, 1, 0, 2, 0, 0, 0, 3, 0, 0, 0, 0, 0, 0, 0, 0, 4, 5, 0, 0, 0, 6, 0, 7, 8, 9, 10, 11]
def lw_ix (o r : Nat) : Nat := if o < 19 then lw_evb.getD o 0 + r else if o = 19 then 12 + r else if o = 20 then 20 + r else if o = 21 then 23 + r else if o = 22 then 57 + r else 130 + 2 * (o - 23) + r
def lw_f (q q' : Nat) (u u' : Nat → Nat) (o r : Nat) : Nat := if o < 27 then u (lw_ix o r) else if o = 27 then (if r = 0 then q else u (107 + r)) else if r = 0 then q' else u' (lw_jx.getD r 0)
def lw_pos (i : Nat × Nat) : Nat := if i.1 < 27 then lw_ix i.1 i.2 + 1 else if i.1 = 27 then (if i.2 = 0 then 0 else 108 + i.2) else if i.2 = 0 then 139 else 140 + lw_jx.getD i.2 0
def lw_S0 : tq_St := (fun o k => if o < 19 then (if k = 8 then 2 else if k = 9 then 4 else if k = 13 then -4 else 0) else 0, fun o k => if o = 28 then (if k = 1 then upd (upd (upd (upd (fun _ => 0) 0 10) 1 5) 2 4) 3 20 else if k = 16 then upd (upd (upd (upd (upd (upd (upd (upd (fun _ => 0) 0 0) 1 5) 2 9) 3 13) 4 16) 5 20) 6 25) 7 29 else if k = 17 then upd (upd (upd (upd (upd (upd (upd (upd (upd (upd (upd (upd (upd (upd (upd (upd (upd (upd (upd (upd (upd (upd (upd (upd (upd (upd (upd (upd (upd (fun _ => 0) 0 112) 1 108) 2 97) 3 105) 4 110) 5 115) 6 111) 7 102) 8 116) 9 115) 10 104) 11 97) 12 109) 13 100) 14 114) 15 121) 16 114) 17 111) 18 111) 19 109) 20 116) 21 104) 22 105) 23 110) 24 107) 25 112) 26 108) 27 97) 28 110 else if k = 25 then upd (upd (upd (upd (fun _ => 0) 0 (-4)) 1 (-4)) 2 (-4)) 3 (-4) else fun _ => 0) else fun _ => 0, 0, fun _ => 0)
theorem arrV_cong {c : ClassId} {N : Nat} {f g : Nat → Value} (h : ∀ j, j < N → f j = g j) : arrV c N f = arrV c N g := by
  unfold arrV
  congr 1
  congr 1
  funext j
  exact h j.val j.isLt
section LWW
variable {D : va_G} {tf : Nat → ClassId} {q q' : Nat} {u u' : Nat → Nat}
def lw_ok (D : va_G) (tf : Nat → ClassId) (q q' : Nat) (u u' : Nat → Nat) (o r k : Nat) : Prop := ∃ e, (wn_X6 (fun _ _ => 0, D, tf) q u ++ wn_X7 (fun _ _ => 0, D, tf) q' u')[k]? = some (lw_f q q' u u' o r, e) ∧ ∀ H, va_at D vwCl (lw_f q q' u u' o r, e) H → va_at D vwCl (lw_f q q' u u' o r, tq_gc (lw_f q q' u u', D, tf) lw_S0 o r) H
/-- an array of references, by what its places hold -/
theorem lw_ref {o r k n t : Nat} {f g : Nat → Option Nat} (h1 : (wn_X6 (fun _ _ => 0, D, tf) q u ++ wn_X7 (fun _ _ => 0, D, tf) q' u')[k]? = some (lw_f q q' u u' o r, .inl (tf t, n, .inr (.inr (.inr (.inr f)))))) (h2 : tq_gc (lw_f q q' u u', D, tf) lw_S0 o r = .inl (tf t, n, .inr (.inr (.inr (.inr g))))) (h : ∀ j, j < n → f j = g j) : lw_ok D tf q q' u u' o r k := by
  refine ⟨_, h1, fun H hH => ?_⟩
  rw [h2]
  show H[lw_f q q' u u' o r]? = some (vp_cell (tf t) (n, .inr (.inr (.inr (.inr g)))))
  have hH : H[lw_f q q' u u' o r]? = some (vp_cell (tf t) (n, .inr (.inr (.inr (.inr f))))) := hH
  rw [hH, vp_cell_q, vp_cell_q]
  exact congrArg some (arrV_cong (fun j hj => by rw [h j hj]))
theorem lw_e0 : ∀ r, r < 6 → lw_ok D tf q q' u u' 0 r (lw_pos (0, r))
  | 0, _ => show lw_ok D tf q q' u u' 0 0 1 from ⟨_, rfl, fun _ h => h⟩
  | 1, _ => show lw_ok D tf q q' u u' 0 1 2 from ⟨_, rfl, fun _ h => h⟩
  | 2, _ => show lw_ok D tf q q' u u' 0 2 3 from ⟨_, rfl, fun _ h => h⟩
  | 3, _ => show lw_ok D tf q q' u u' 0 3 4 from ⟨_, rfl, fun _ h => h⟩
  | 4, _ => show lw_ok D tf q q' u u' 0 4 5 from ⟨_, rfl, fun _ h => h⟩
  | 5, _ => show lw_ok D tf q q' u u' 0 5 6 from ⟨_, rfl, fun _ h => h⟩
  | r + 6, h => absurd h (by omega)
theorem lw_e1 : ∀ r, r < 6 → lw_ok D tf q q' u u' 1 r (lw_pos (1, r))
  | 0, _ => show lw_ok D tf q q' u u' 1 0 7 from ⟨_, rfl, fun _ h => h⟩
  | 1, _ => show lw_ok D tf q q' u u' 1 1 8 from ⟨_, rfl, fun _ h => h⟩
  | 2, _ => show lw_ok D tf q q' u u' 1 2 9 from ⟨_, rfl, fun _ h => h⟩
  | 3, _ => show lw_ok D tf q q' u u' 1 3 10 from ⟨_, rfl, fun _ h => h⟩
  | 4, _ => show lw_ok D tf q q' u u' 1 4 11 from ⟨_, rfl, fun _ h => h⟩
  | 5, _ => show lw_ok D tf q q' u u' 1 5 12 from ⟨_, rfl, fun _ h => h⟩
  | r + 6, h => absurd h (by omega)
theorem lw_e2 : ∀ r, r < 6 → lw_ok D tf q q' u u' 2 r (lw_pos (2, r))
  | 0, _ => show lw_ok D tf q q' u u' 2 0 15 from ⟨_, rfl, fun _ h => h⟩
  | 1, _ => show lw_ok D tf q q' u u' 2 1 16 from ⟨_, rfl, fun _ h => h⟩
  | 2, _ => show lw_ok D tf q q' u u' 2 2 17 from ⟨_, rfl, fun _ h => h⟩
  | 3, _ => show lw_ok D tf q q' u u' 2 3 18 from ⟨_, rfl, fun _ h => h⟩
  | 4, _ => show lw_ok D tf q q' u u' 2 4 19 from ⟨_, rfl, fun _ h => h⟩
  | 5, _ => show lw_ok D tf q q' u u' 2 5 20 from ⟨_, rfl, fun _ h => h⟩
  | r + 6, h => absurd h (by omega)
theorem lw_e3 : ∀ r, r < 6 → lw_ok D tf q q' u u' 3 r (lw_pos (3, r))
  | 0, _ => show lw_ok D tf q q' u u' 3 0 28 from ⟨_, rfl, fun _ h => h⟩
  | 1, _ => show lw_ok D tf q q' u u' 3 1 29 from ⟨_, rfl, fun _ h => h⟩
  | 2, _ => show lw_ok D tf q q' u u' 3 2 30 from ⟨_, rfl, fun _ h => h⟩
  | 3, _ => show lw_ok D tf q q' u u' 3 3 31 from ⟨_, rfl, fun _ h => h⟩
  | 4, _ => show lw_ok D tf q q' u u' 3 4 32 from ⟨_, rfl, fun _ h => h⟩
  | 5, _ => show lw_ok D tf q q' u u' 3 5 33 from ⟨_, rfl, fun _ h => h⟩
  | r + 6, h => absurd h (by omega)
theorem lw_e4 : ∀ r, r < 6 → lw_ok D tf q q' u u' 4 r (lw_pos (4, r))
  | 0, _ => show lw_ok D tf q q' u u' 4 0 34 from ⟨_, rfl, fun _ h => h⟩
  | 1, _ => show lw_ok D tf q q' u u' 4 1 35 from ⟨_, rfl, fun _ h => h⟩
  | 2, _ => show lw_ok D tf q q' u u' 4 2 36 from ⟨_, rfl, fun _ h => h⟩
  | 3, _ => show lw_ok D tf q q' u u' 4 3 37 from ⟨_, rfl, fun _ h => h⟩
  | 4, _ => show lw_ok D tf q q' u u' 4 4 38 from ⟨_, rfl, fun _ h => h⟩
  | 5, _ => show lw_ok D tf q q' u u' 4 5 39 from ⟨_, rfl, fun _ h => h⟩
  | r + 6, h => absurd h (by omega)
theorem lw_e5 : ∀ r, r < 6 → lw_ok D tf q q' u u' 5 r (lw_pos (5, r))
  | 0, _ => show lw_ok D tf q q' u u' 5 0 40 from ⟨_, rfl, fun _ h => h⟩
  | 1, _ => show lw_ok D tf q q' u u' 5 1 41 from ⟨_, rfl, fun _ h => h⟩
  | 2, _ => show lw_ok D tf q q' u u' 5 2 42 from ⟨_, rfl, fun _ h => h⟩
  | 3, _ => show lw_ok D tf q q' u u' 5 3 43 from ⟨_, rfl, fun _ h => h⟩
  | 4, _ => show lw_ok D tf q q' u u' 5 4 44 from ⟨_, rfl, fun _ h => h⟩
  | 5, _ => show lw_ok D tf q q' u u' 5 5 45 from ⟨_, rfl, fun _ h => h⟩
  | r + 6, h => absurd h (by omega)
theorem lw_e6 : ∀ r, r < 6 → lw_ok D tf q q' u u' 6 r (lw_pos (6, r))
  | 0, _ => show lw_ok D tf q q' u u' 6 0 46 from ⟨_, rfl, fun _ h => h⟩
  | 1, _ => show lw_ok D tf q q' u u' 6 1 47 from ⟨_, rfl, fun _ h => h⟩
  | 2, _ => show lw_ok D tf q q' u u' 6 2 48 from ⟨_, rfl, fun _ h => h⟩
  | 3, _ => show lw_ok D tf q q' u u' 6 3 49 from ⟨_, rfl, fun _ h => h⟩
  | 4, _ => show lw_ok D tf q q' u u' 6 4 50 from ⟨_, rfl, fun _ h => h⟩
  | 5, _ => show lw_ok D tf q q' u u' 6 5 51 from ⟨_, rfl, fun _ h => h⟩
  | r + 6, h => absurd h (by omega)
theorem lw_e7 : ∀ r, r < 6 → lw_ok D tf q q' u u' 7 r (lw_pos (7, r))
  | 0, _ => show lw_ok D tf q q' u u' 7 0 52 from ⟨_, rfl, fun _ h => h⟩
  | 1, _ => show lw_ok D tf q q' u u' 7 1 53 from ⟨_, rfl, fun _ h => h⟩
  | 2, _ => show lw_ok D tf q q' u u' 7 2 54 from ⟨_, rfl, fun _ h => h⟩
  | 3, _ => show lw_ok D tf q q' u u' 7 3 55 from ⟨_, rfl, fun _ h => h⟩
  | 4, _ => show lw_ok D tf q q' u u' 7 4 56 from ⟨_, rfl, fun _ h => h⟩
  | 5, _ => show lw_ok D tf q q' u u' 7 5 57 from ⟨_, rfl, fun _ h => h⟩
  | r + 6, h => absurd h (by omega)
theorem lw_e8 : ∀ r, r < 6 → lw_ok D tf q q' u u' 8 r (lw_pos (8, r))
  | 0, _ => show lw_ok D tf q q' u u' 8 0 61 from ⟨_, rfl, fun _ h => h⟩
  | 1, _ => show lw_ok D tf q q' u u' 8 1 62 from ⟨_, rfl, fun _ h => h⟩
  | 2, _ => show lw_ok D tf q q' u u' 8 2 63 from ⟨_, rfl, fun _ h => h⟩
  | 3, _ => show lw_ok D tf q q' u u' 8 3 64 from ⟨_, rfl, fun _ h => h⟩
  | 4, _ => show lw_ok D tf q q' u u' 8 4 65 from ⟨_, rfl, fun _ h => h⟩
  | 5, _ => show lw_ok D tf q q' u u' 8 5 66 from ⟨_, rfl, fun _ h => h⟩
  | r + 6, h => absurd h (by omega)
theorem lw_e9 : ∀ r, r < 6 → lw_ok D tf q q' u u' 9 r (lw_pos (9, r))
  | 0, _ => show lw_ok D tf q q' u u' 9 0 67 from ⟨_, rfl, fun _ h => h⟩
  | 1, _ => show lw_ok D tf q q' u u' 9 1 68 from ⟨_, rfl, fun _ h => h⟩
  | 2, _ => show lw_ok D tf q q' u u' 9 2 69 from ⟨_, rfl, fun _ h => h⟩
  | 3, _ => show lw_ok D tf q q' u u' 9 3 70 from ⟨_, rfl, fun _ h => h⟩
  | 4, _ => show lw_ok D tf q q' u u' 9 4 71 from ⟨_, rfl, fun _ h => h⟩
  | 5, _ => show lw_ok D tf q q' u u' 9 5 72 from ⟨_, rfl, fun _ h => h⟩
  | r + 6, h => absurd h (by omega)
theorem lw_e10 : ∀ r, r < 6 → lw_ok D tf q q' u u' 10 r (lw_pos (10, r))
  | 0, _ => show lw_ok D tf q q' u u' 10 0 73 from ⟨_, rfl, fun _ h => h⟩
  | 1, _ => show lw_ok D tf q q' u u' 10 1 74 from ⟨_, rfl, fun _ h => h⟩
  | 2, _ => show lw_ok D tf q q' u u' 10 2 75 from ⟨_, rfl, fun _ h => h⟩
  | 3, _ => show lw_ok D tf q q' u u' 10 3 76 from ⟨_, rfl, fun _ h => h⟩
  | 4, _ => show lw_ok D tf q q' u u' 10 4 77 from ⟨_, rfl, fun _ h => h⟩
  | 5, _ => show lw_ok D tf q q' u u' 10 5 78 from ⟨_, rfl, fun _ h => h⟩
  | r + 6, h => absurd h (by omega)
theorem lw_e11 : ∀ r, r < 6 → lw_ok D tf q q' u u' 11 r (lw_pos (11, r))
  | 0, _ => show lw_ok D tf q q' u u' 11 0 79 from ⟨_, rfl, fun _ h => h⟩
  | 1, _ => show lw_ok D tf q q' u u' 11 1 80 from ⟨_, rfl, fun _ h => h⟩
  | 2, _ => show lw_ok D tf q q' u u' 11 2 81 from ⟨_, rfl, fun _ h => h⟩
  | 3, _ => show lw_ok D tf q q' u u' 11 3 82 from ⟨_, rfl, fun _ h => h⟩
  | 4, _ => show lw_ok D tf q q' u u' 11 4 83 from ⟨_, rfl, fun _ h => h⟩
  | 5, _ => show lw_ok D tf q q' u u' 11 5 84 from ⟨_, rfl, fun _ h => h⟩
  | r + 6, h => absurd h (by omega)
theorem lw_e12 : ∀ r, r < 6 → lw_ok D tf q q' u u' 12 r (lw_pos (12, r))
  | 0, _ => show lw_ok D tf q q' u u' 12 0 85 from ⟨_, rfl, fun _ h => h⟩
  | 1, _ => show lw_ok D tf q q' u u' 12 1 86 from ⟨_, rfl, fun _ h => h⟩
  | 2, _ => show lw_ok D tf q q' u u' 12 2 87 from ⟨_, rfl, fun _ h => h⟩
  | 3, _ => show lw_ok D tf q q' u u' 12 3 88 from ⟨_, rfl, fun _ h => h⟩
  | 4, _ => show lw_ok D tf q q' u u' 12 4 89 from ⟨_, rfl, fun _ h => h⟩
  | 5, _ => show lw_ok D tf q q' u u' 12 5 90 from ⟨_, rfl, fun _ h => h⟩
  | r + 6, h => absurd h (by omega)
theorem lw_e13 : ∀ r, r < 6 → lw_ok D tf q q' u u' 13 r (lw_pos (13, r))
  | 0, _ => show lw_ok D tf q q' u u' 13 0 91 from ⟨_, rfl, fun _ h => h⟩
  | 1, _ => show lw_ok D tf q q' u u' 13 1 92 from ⟨_, rfl, fun _ h => h⟩
  | 2, _ => show lw_ok D tf q q' u u' 13 2 93 from ⟨_, rfl, fun _ h => h⟩
  | 3, _ => show lw_ok D tf q q' u u' 13 3 94 from ⟨_, rfl, fun _ h => h⟩
  | 4, _ => show lw_ok D tf q q' u u' 13 4 95 from ⟨_, rfl, fun _ h => h⟩
  | 5, _ => show lw_ok D tf q q' u u' 13 5 96 from ⟨_, rfl, fun _ h => h⟩
  | r + 6, h => absurd h (by omega)
theorem lw_e14 : ∀ r, r < 6 → lw_ok D tf q q' u u' 14 r (lw_pos (14, r))
  | 0, _ => show lw_ok D tf q q' u u' 14 0 97 from ⟨_, rfl, fun _ h => h⟩
  | 1, _ => show lw_ok D tf q q' u u' 14 1 98 from ⟨_, rfl, fun _ h => h⟩
  | 2, _ => show lw_ok D tf q q' u u' 14 2 99 from ⟨_, rfl, fun _ h => h⟩
  | 3, _ => show lw_ok D tf q q' u u' 14 3 100 from ⟨_, rfl, fun _ h => h⟩
  | 4, _ => show lw_ok D tf q q' u u' 14 4 101 from ⟨_, rfl, fun _ h => h⟩
  | 5, _ => show lw_ok D tf q q' u u' 14 5 102 from ⟨_, rfl, fun _ h => h⟩
  | r + 6, h => absurd h (by omega)
theorem lw_e15 : ∀ r, r < 6 → lw_ok D tf q q' u u' 15 r (lw_pos (15, r))
  | 0, _ => show lw_ok D tf q q' u u' 15 0 103 from ⟨_, rfl, fun _ h => h⟩
  | 1, _ => show lw_ok D tf q q' u u' 15 1 104 from ⟨_, rfl, fun _ h => h⟩
  | 2, _ => show lw_ok D tf q q' u u' 15 2 105 from ⟨_, rfl, fun _ h => h⟩
  | 3, _ => show lw_ok D tf q q' u u' 15 3 106 from ⟨_, rfl, fun _ h => h⟩
  | 4, _ => show lw_ok D tf q q' u u' 15 4 107 from ⟨_, rfl, fun _ h => h⟩
  | 5, _ => show lw_ok D tf q q' u u' 15 5 108 from ⟨_, rfl, fun _ h => h⟩
  | r + 6, h => absurd h (by omega)
theorem lw_e16 : ∀ r, r < 6 → lw_ok D tf q q' u u' 16 r (lw_pos (16, r))
  | 0, _ => show lw_ok D tf q q' u u' 16 0 109 from ⟨_, rfl, fun _ h => h⟩
  | 1, _ => show lw_ok D tf q q' u u' 16 1 110 from ⟨_, rfl, fun _ h => h⟩
  | 2, _ => show lw_ok D tf q q' u u' 16 2 111 from ⟨_, rfl, fun _ h => h⟩
  | 3, _ => show lw_ok D tf q q' u u' 16 3 112 from ⟨_, rfl, fun _ h => h⟩
  | 4, _ => show lw_ok D tf q q' u u' 16 4 113 from ⟨_, rfl, fun _ h => h⟩
  | 5, _ => show lw_ok D tf q q' u u' 16 5 114 from ⟨_, rfl, fun _ h => h⟩
  | r + 6, h => absurd h (by omega)
theorem lw_e17 : ∀ r, r < 6 → lw_ok D tf q q' u u' 17 r (lw_pos (17, r))
  | 0, _ => show lw_ok D tf q q' u u' 17 0 119 from ⟨_, rfl, fun _ h => h⟩
  | 1, _ => show lw_ok D tf q q' u u' 17 1 120 from ⟨_, rfl, fun _ h => h⟩
  | 2, _ => show lw_ok D tf q q' u u' 17 2 121 from ⟨_, rfl, fun _ h => h⟩
  | 3, _ => show lw_ok D tf q q' u u' 17 3 122 from ⟨_, rfl, fun _ h => h⟩
  | 4, _ => show lw_ok D tf q q' u u' 17 4 123 from ⟨_, rfl, fun _ h => h⟩
  | 5, _ => show lw_ok D tf q q' u u' 17 5 124 from ⟨_, rfl, fun _ h => h⟩
  | r + 6, h => absurd h (by omega)
theorem lw_e18 : ∀ r, r < 6 → lw_ok D tf q q' u u' 18 r (lw_pos (18, r))
  | 0, _ => show lw_ok D tf q q' u u' 18 0 125 from ⟨_, rfl, fun _ h => h⟩
  | 1, _ => show lw_ok D tf q q' u u' 18 1 126 from ⟨_, rfl, fun _ h => h⟩
  | 2, _ => show lw_ok D tf q q' u u' 18 2 127 from ⟨_, rfl, fun _ h => h⟩
  | 3, _ => show lw_ok D tf q q' u u' 18 3 128 from ⟨_, rfl, fun _ h => h⟩
  | 4, _ => show lw_ok D tf q q' u u' 18 4 129 from ⟨_, rfl, fun _ h => h⟩
  | 5, _ => show lw_ok D tf q q' u u' 18 5 130 from ⟨_, rfl, fun _ h => h⟩
  | r + 6, h => absurd h (by omega)
theorem lw_ev : ∀ o, o < 19 → ∀ r, r < 6 → lw_ok D tf q q' u u' o r (lw_pos (o, r))
  | 0, _ => lw_e0
  | 1, _ => lw_e1
  | 2, _ => lw_e2
  | 3, _ => lw_e3
  | 4, _ => lw_e4
  | 5, _ => lw_e5
  | 6, _ => lw_e6
  | 7, _ => lw_e7
  | 8, _ => lw_e8
  | 9, _ => lw_e9
  | 10, _ => lw_e10
  | 11, _ => lw_e11
  | 12, _ => lw_e12
  | 13, _ => lw_e13
  | 14, _ => lw_e14
  | 15, _ => lw_e15
  | 16, _ => lw_e16
  | 17, _ => lw_e17
  | 18, _ => lw_e18
  | o + 19, h => absurd h (by omega)
theorem lw_o19_0 : lw_ok D tf q q' u u' 19 0 13 := ⟨_, rfl, fun _ h => h⟩
theorem lw_o19_1 : lw_ok D tf q q' u u' 19 1 14 := ⟨_, rfl, fun _ h => h⟩
theorem lw_o20_0 : lw_ok D tf q q' u u' 20 0 21 := ⟨_, rfl, fun _ h => h⟩
theorem lw_o20_1 : lw_ok D tf q q' u u' 20 1 22 := ⟨_, rfl, fun _ h => h⟩
theorem lw_o20_2 : lw_ok D tf q q' u u' 20 2 23 := ⟨_, rfl, fun _ h => h⟩
theorem lw_o21_0 : lw_ok D tf q q' u u' 21 0 24 := ⟨_, rfl, fun _ h => h⟩
theorem lw_o21_1 : lw_ok D tf q q' u u' 21 1 25 := by
  refine lw_ref (n := 5) (t := 4) (g := fun i => some (lw_f q q' u u' (3 + i) 0)) rfl rfl (fun j hj => ?_)
  match j, hj with
  | 0, _ => rfl
  | 1, _ => rfl
  | 2, _ => rfl
  | 3, _ => rfl
  | 4, _ => rfl
  | j + 5, h => exact absurd h (by omega)
theorem lw_o21_2 : lw_ok D tf q q' u u' 21 2 26 := ⟨_, rfl, fun _ h => h⟩
theorem lw_o21_3 : lw_ok D tf q q' u u' 21 3 27 := ⟨_, rfl, fun _ h => h⟩
theorem lw_o22_0 : lw_ok D tf q q' u u' 22 0 58 := ⟨_, rfl, fun _ h => h⟩
theorem lw_o22_1 : lw_ok D tf q q' u u' 22 1 59 := by
  refine lw_ref (n := 9) (t := 4) (g := fun i => some (lw_f q q' u u' (8 + i) 0)) rfl rfl (fun j hj => ?_)
  match j, hj with
  | 0, _ => rfl
  | 1, _ => rfl
  | 2, _ => rfl
  | 3, _ => rfl
  | 4, _ => rfl
  | 5, _ => rfl
  | 6, _ => rfl
  | 7, _ => rfl
  | 8, _ => rfl
  | j + 9, h => exact absurd h (by omega)
theorem lw_o22_2 : lw_ok D tf q q' u u' 22 2 60 := ⟨_, rfl, fun _ h => h⟩
theorem lw_o23_0 : lw_ok D tf q q' u u' 23 0 131 := ⟨_, rfl, fun _ h => h⟩
theorem lw_o23_1 : lw_ok D tf q q' u u' 23 1 132 := ⟨_, rfl, fun _ h => h⟩
theorem lw_o24_0 : lw_ok D tf q q' u u' 24 0 133 := ⟨_, rfl, fun _ h => h⟩
theorem lw_o24_1 : lw_ok D tf q q' u u' 24 1 134 := ⟨_, rfl, fun _ h => h⟩
theorem lw_o25_0 : lw_ok D tf q q' u u' 25 0 135 := ⟨_, rfl, fun _ h => h⟩
theorem lw_o25_1 : lw_ok D tf q q' u u' 25 1 136 := ⟨_, rfl, fun _ h => h⟩
theorem lw_o26_0 : lw_ok D tf q q' u u' 26 0 137 := ⟨_, rfl, fun _ h => h⟩
theorem lw_o26_1 : lw_ok D tf q q' u u' 26 1 138 := ⟨_, rfl, fun _ h => h⟩
theorem lw_o27_0 : lw_ok D tf q q' u u' 27 0 0 := ⟨_, rfl, fun _ h => h⟩
theorem lw_o27_7 : lw_ok D tf q q' u u' 27 7 115 := by
  refine lw_ref (n := 2) (t := 4) (g := fun i => some (lw_f q q' u u' (17 + i) 0)) rfl rfl (fun j hj => ?_)
  match j, hj with
  | 0, _ => rfl
  | 1, _ => rfl
  | j + 2, h => exact absurd h (by omega)
theorem lw_o27_8 : lw_ok D tf q q' u u' 27 8 116 := ⟨_, rfl, fun _ h => h⟩
theorem lw_o27_9 : lw_ok D tf q q' u u' 27 9 117 := by
  refine lw_ref (n := 4) (t := 5) (g := fun i => some (lw_f q q' u u' (23 + i) 0)) rfl rfl (fun j hj => ?_)
  match j, hj with
  | 0, _ => rfl
  | 1, _ => rfl
  | 2, _ => rfl
  | 3, _ => rfl
  | j + 4, h => exact absurd h (by omega)
theorem lw_o27_10 : lw_ok D tf q q' u u' 27 10 118 := ⟨_, rfl, fun _ h => h⟩
theorem lw_o28_0 : lw_ok D tf q q' u u' 28 0 139 := ⟨_, rfl, fun _ h => h⟩
theorem lw_o28_1 : lw_ok D tf q q' u u' 28 1 140 := ⟨_, rfl, fun _ h => h⟩
theorem lw_o28_2 : lw_ok D tf q q' u u' 28 2 141 := ⟨_, rfl, fun _ h => h⟩
theorem lw_o28_4 : lw_ok D tf q q' u u' 28 4 142 := ⟨_, rfl, fun _ h => h⟩
theorem lw_o28_8 : lw_ok D tf q q' u u' 28 8 143 := ⟨_, rfl, fun _ h => h⟩
theorem lw_o28_17 : lw_ok D tf q q' u u' 28 17 144 := ⟨_, rfl, fun _ h => h⟩
theorem lw_o28_18 : lw_ok D tf q q' u u' 28 18 145 := ⟨_, rfl, fun _ h => h⟩
theorem lw_o28_22 : lw_ok D tf q q' u u' 28 22 146 := ⟨_, rfl, fun _ h => h⟩
theorem lw_o28_24 : lw_ok D tf q q' u u' 28 24 147 := ⟨_, rfl, fun _ h => h⟩
theorem lw_o28_25 : lw_ok D tf q q' u u' 28 25 148 := ⟨_, rfl, fun _ h => h⟩
theorem lw_o28_26 : lw_ok D tf q q' u u' 28 26 149 := ⟨_, rfl, fun _ h => h⟩
theorem lw_o28_27 : lw_ok D tf q q' u u' 28 27 150 := ⟨_, rfl, fun _ h => h⟩
theorem lw_o28_28 : lw_ok D tf q q' u u' 28 28 151 := ⟨_, rfl, fun _ h => h⟩
theorem lw_ot : ∀ i ∈ tq_otc, lw_ok D tf q q' u u' i.1 i.2 (lw_pos i) := by
  unfold tq_otc
  exact List.forall_mem_cons.mpr ⟨lw_o19_0, List.forall_mem_cons.mpr ⟨lw_o19_1, List.forall_mem_cons.mpr ⟨lw_o20_0, List.forall_mem_cons.mpr ⟨lw_o20_1, List.forall_mem_cons.mpr ⟨lw_o20_2, List.forall_mem_cons.mpr ⟨lw_o21_0, List.forall_mem_cons.mpr ⟨lw_o21_1, List.forall_mem_cons.mpr ⟨lw_o21_2, List.forall_mem_cons.mpr ⟨lw_o21_3, List.forall_mem_cons.mpr ⟨lw_o22_0, List.forall_mem_cons.mpr ⟨lw_o22_1, List.forall_mem_cons.mpr ⟨lw_o22_2, List.forall_mem_cons.mpr ⟨lw_o23_0, List.forall_mem_cons.mpr ⟨lw_o23_1, List.forall_mem_cons.mpr ⟨lw_o24_0, List.forall_mem_cons.mpr ⟨lw_o24_1, List.forall_mem_cons.mpr ⟨lw_o25_0, List.forall_mem_cons.mpr ⟨lw_o25_1, List.forall_mem_cons.mpr ⟨lw_o26_0, List.forall_mem_cons.mpr ⟨lw_o26_1, List.forall_mem_cons.mpr ⟨lw_o27_0, List.forall_mem_cons.mpr ⟨lw_o27_7, List.forall_mem_cons.mpr ⟨lw_o27_8, List.forall_mem_cons.mpr ⟨lw_o27_9, List.forall_mem_cons.mpr ⟨lw_o27_10, List.forall_mem_cons.mpr ⟨lw_o28_0, List.forall_mem_cons.mpr ⟨lw_o28_1, List.forall_mem_cons.mpr ⟨lw_o28_2, List.forall_mem_cons.mpr ⟨lw_o28_4, List.forall_mem_cons.mpr ⟨lw_o28_8, List.forall_mem_cons.mpr ⟨lw_o28_17, List.forall_mem_cons.mpr ⟨lw_o28_18, List.forall_mem_cons.mpr ⟨lw_o28_22, List.forall_mem_cons.mpr ⟨lw_o28_24, List.forall_mem_cons.mpr ⟨lw_o28_25, List.forall_mem_cons.mpr ⟨lw_o28_26, List.forall_mem_cons.mpr ⟨lw_o28_27, List.forall_mem_cons.mpr ⟨lw_o28_28, fun _ h => absurd h List.not_mem_nil⟩⟩⟩⟩⟩⟩⟩⟩⟩⟩⟩⟩⟩⟩⟩⟩⟩⟩⟩⟩⟩⟩⟩⟩⟩⟩⟩⟩⟩⟩⟩⟩⟩⟩⟩⟩⟩⟩
theorem lw_all : ∀ i ∈ tq_cids, lw_ok D tf q q' u u' i.1 i.2 (lw_pos i) := by
  intro i hi
  rcases List.mem_append.mp hi with h | h
  · obtain ⟨o, ho, h⟩ := List.mem_flatMap.mp h
    obtain ⟨r, hr, rfl⟩ := List.mem_map.mp h
    exact lw_ev o (List.mem_range.mp ho) r (List.mem_range.mp hr)
  · exact lw_ot i h
theorem lw_posn : (tq_cids.map lw_pos).Nodup := by decide +kernel
theorem lw_wP {H : Heap} (h : va_P D vwCl (wn_X6 (fun _ _ => 0, D, tf) q u ++ wn_X7 (fun _ _ => 0, D, tf) q' u') H) : va_P D vwCl (tq_W (lw_f q q' u u', D, tf) lw_S0) H := by
  refine va_P_mem.mpr (fun c hc => ?_)
  obtain ⟨i, hi, rfl⟩ := List.mem_map.mp hc
  obtain ⟨e, h1, h2⟩ := lw_all (D := D) (tf := tf) (q := q) (q' := q') (u := u) (u' := u') i hi
  exact h2 H (h _ _ h1)
theorem lw_wD {A : Nat → Prop} (h : va_D A (wn_X6 (fun _ _ => 0, D, tf) q u ++ wn_X7 (fun _ _ => 0, D, tf) q' u')) : va_D A (tq_W (lw_f q q' u u', D, tf) lw_S0) := by
  have hk : ∀ (j : Nat) (c : Nat × va_E), (tq_W (lw_f q q' u u', D, tf) lw_S0)[j]? = some c → ∃ i, tq_cids[j]? = some i ∧ c.1 = lw_f q q' u u' i.1 i.2 := by
    intro j c hc
    unfold tq_W at hc
    rw [List.getElem?_map] at hc
    cases hi : tq_cids[j]? with
    | none => rw [hi] at hc; cases hc
    | some i => rw [hi] at hc; cases hc; exact ⟨i, rfl, rfl⟩
  refine ⟨fun j j' c c' hc hc' e => ?_, fun j c hc => ?_⟩
  · obtain ⟨i, hi, ei⟩ := hk j c hc
    obtain ⟨i', hi', ei'⟩ := hk j' c' hc'
    obtain ⟨x, h1, -⟩ := lw_all (D := D) (tf := tf) (q := q) (q' := q') (u := u) (u' := u') i (List.mem_of_getElem? hi)
    obtain ⟨x', h1', -⟩ := lw_all (D := D) (tf := tf) (q := q) (q' := q') (u := u) (u' := u') i' (List.mem_of_getElem? hi')
    have hp := h.1 _ _ _ _ h1 h1' (by show lw_f q q' u u' i.1 i.2 = lw_f q q' u u' i'.1 i'.2; rw [← ei, ← ei']; exact e)
    refine tq_ndi lw_posn (x := lw_pos i) ?_ ?_
    · rw [List.getElem?_map, hi]; rfl
    · rw [List.getElem?_map, hi', hp]; rfl
  · obtain ⟨i, hi, ei⟩ := hk j c hc
    obtain ⟨x, h1, -⟩ := lw_all (D := D) (tf := tf) (q := q) (q' := q') (u := u) (u' := u') i (List.mem_of_getElem? hi)
    rw [ei]
    exact h.2 _ _ h1
end LWW
-- .. and there nothing has been said yet
abbrev lw_G0 : aQ := ((0, fun _ => 0, fun _ => 0, fun _ => 0, 0, 0, 2, 4, 0, fun _ => 0), fun _ => none, (0, fun _ => 0), 0, (0, fun _ => 0, fun _ => false), fun _ => (none, 0, fun _ => 0), 0)
theorem lw_w0 : wfQ lw_G0 := ⟨e0_wf, fun k B e => absurd e (by simp), ⟨by decide, fun _ => by show 0 < 128; decide⟩, by decide, ⟨by decide, fun _ => by show 0 < 5; decide⟩, fun k l e => absurd e (by simp), fun _ => by show 0 ≤ 40; decide, by decide⟩
theorem lw_b0 : ∀ k, k < 4 → lw_S0.2.1 28 1 k = nI (brN k) := by decide +kernel
theorem lw_b1 : ∀ k, k < 4 → lw_S0.2.1 28 25 k = -4 := by decide +kernel
theorem lw_b2 : ∀ i, i < 8 → lw_S0.2.1 28 16 i = nI (tq_cuts.getD i 0) := by decide +kernel
theorem lw_b3 : ∀ i, i < 29 → lw_S0.2.1 28 17 i = nI (tq_lets.getD i 0) := by decide +kernel
theorem lw_r0 : RQ lw_S0 lw_G0 := by
  refine ⟨⟨rfl, rfl, rfl, rfl, rfl, rfl, fun p hp => absurd hp (by show ¬ p < 0; omega), fun p hp => absurd hp (by show ¬ p < 0; omega), fun p hp => absurd hp (by show ¬ p < 0; omega), fun p hp => absurd hp (by show ¬ p < 0; omega)⟩, fun k hk => rfl, ⟨rfl, fun i hi => absurd hi (by show ¬ i < 0; omega)⟩, rfl, ⟨rfl, fun i hi => absurd hi (by show ¬ i < 0; omega)⟩, fun k hk => ?_, rfl⟩
  show (if 23 + k < 19 then (if 1 = 8 then (2 : Int32) else if 1 = 9 then 4 else if 1 = 13 then -4 else 0) else 0) = 0
  rw [if_neg (by omega)]
theorem lw_z0 : RZ lw_S0 lw_G0 := by
  refine ⟨⟨rfl, fun p hp => absurd hp (by show ¬ p < 0; omega), fun p hp => absurd hp (by show ¬ p < 0; omega), fun p hp => absurd hp (by show ¬ p < 0; omega), rfl, rfl, by decide, by decide, rfl, fun p hp => absurd hp (by show ¬ p < 0; omega), lw_b0⟩, fun k hk => rfl, ⟨rfl, fun i hi => absurd hi (by show ¬ i < 0; omega)⟩, rfl, ⟨rfl, fun i hi => absurd hi (by show ¬ i < 0; omega)⟩, fun k hk => lw_b1 k hk, rfl, lw_b2, lw_b3⟩
theorem lw_J0 : lwJ lw_S0 := ⟨lw_G0, lw_w0, lw_r0, lw_z0⟩
end
section
-- THE LAW MAKES ITS TWO OBJECTS
def tq_DL (X : tq_Cx) (cc : ByteArray) (nL : Nat) (own : String) (k : Nat) : Prop := match X with
  | (p, _, _, R, s, m, args, _, _, c, A, a, _, Q) => p.tables.exec = Jvm.exec ∧ c.code = cc ∧ c.maxLocals = nL ∧ s.vm.findClass own = some m.cls ∧ (∀ w ∈ tq_tbl, w.before args s = true) ∧ va_K a.2.1 vwCl (tq_ty a) s ∧ (k ≤ R.frames ∧ 100 * k ≤ R.locals ∧ Q.1.1 ≤ R.cells ∧ Q.1.2 ≤ R.slots) ∧ (∀ q, s.heap.size ≤ q → A q) ∧ tq_N s
section GL
variable {X : tq_Cx} {cc : ByteArray} {nL : Nat} {own : String} {kr : Nat} {ws : va_W} {nc ns : Nat} {pc : Nat} {lv : List (Nat × Value)} {st : List Value}
variable {y : MethodName} {cy : ByteArray} {n k mc ms ci : Nat} {df : List Value} {W1 : tq_La → Nat → (Nat → Nat) → va_W}
theorem gl_new (C : tq_DL X cc nL own kr) {Cn : String} {T : u_T} {N ci index : Nat} (hd : decode cc pc = .ok (.new index, 3)) (hcl : Cond.classLink own index Cn ∈ tq_tbl) (hinst : Cond.instantiable Cn N ∈ tq_tbl) (hini : Cond.initialized Cn ∈ tq_tbl) (hin : ∀ w ∈ u_ws Cn T N, w ∈ tq_tbl) (ty : Nat → FieldType) (hty : ∀ k, k < N → parseFieldDescriptor (T k).2.2.1 = some (ty k)) (hvc : vwCl[ci]? = some (Cn, T, N)) (fs : List Value) (hfs : ∀ j, j < N → defaultValue (ty j) = vp_V fs j) (hc : nc + 1 ≤ X.2.2.2.2.2.2.2.2.2.2.2.2.2.1.1) (hs : ns + N ≤ X.2.2.2.2.2.2.2.2.2.2.2.2.2.1.2) (g : ∀ q : Nat, GoN X nL (ws ++ [(q, .inr (ci, fs))]) (nc + 1) (ns + N) (pc + 3) lv (.ref q :: st)) : GoN X nL ws nc ns pc lv st := by
  obtain ⟨p, l, e, R, s, m, args, below, meth, c, A, a, z, Q⟩ := X
  intro H locs ls hP hD hS hl
  have hR := C.2.2.2.2.2.2.1
  have hK : va_K a.2.1 vwCl (tq_ty a) s := C.2.2.2.2.2.1
  exact va_new (ci := ci) C.1 C.2.1 C.2.2.2.2.1 hin ty hty C.2.2.2.1 (C.2.2.2.2.1 _ hcl) (C.2.2.2.2.1 _ hinst) (C.2.2.2.2.1 _ hini) hK hP hD hS C.2.2.2.2.2.2.2.1 hvc hfs (Nat.le_trans hc hR.2.2.1) (Nat.le_trans hs hR.2.2.2) hd (fun q H1 hP1 hD1 hS1 => g q H1 locs ls hP1 hD1 hS1 hl)
theorem gl_init (C : tq_DL X cc nL own kr) {index q : Nat} (hM : tq_MI y cy n k mc ms ci df W1) (hl : Cond.methodLink own index y ∈ tq_tbl) (hini : Cond.initialized y.cls ∈ tq_tbl) (hin : Cond.instanceMethod y ∈ tq_tbl) (hco : Cond.code y cy n none ∈ tq_tbl) (hd0 : y.cls ≠ "java/lang/invoke/MethodHandle" ∧ y.cls ≠ "java/lang/invoke/VarHandle" ∧ (parseMethodDescriptor y.desc).map (fun d => d.parameters.length) = some 0) (hy1 : y.name = "<init>") (hrk : tq_rk k kr n = true) (hrm : Nat.ble ((st.map fun v => v.category).sum) 8 = true) (hc : nc + mc ≤ X.2.2.2.2.2.2.2.2.2.2.2.2.2.1.1) (hs : ns + ms ≤ X.2.2.2.2.2.2.2.2.2.2.2.2.2.1.2) (hd : decode cc pc = .ok (.invokespecial index, 3)) (g : ∀ u, GoN X nL (ws ++ W1 (tq_la X) q u) (nc + mc) (ns + ms) (pc + 3) lv st) : GoN X nL (ws ++ [(q, .inr (ci, df))]) nc ns pc lv (.ref q :: st) := by
  obtain ⟨p, l, e, R, s, m, args, below, meth, c, A, a, z, Q⟩ := X
  intro H locs ls hP hD hS hlv
  have hR := C.2.2.2.2.2.2.1
  have hK : va_K a.2.1 vwCl (tq_ty a) s := C.2.2.2.2.2.1
  have hPc : va_P a.2.1 vwCl (tq_fr q ci df) H := va_P_mem.mpr (fun x hx => va_P_mem.mp hP x (List.mem_append_right _ hx))
  have hDc : va_D (fun _ => True) (tq_fr q ci df) := va_D_mem.mpr ⟨by simp, fun _ _ => trivial⟩
  have hF : ∀ x, va_A (tq_fr q ci df) H.size x → A x := by
    intro x hx
    rcases hx with ⟨k9, e9, h9⟩ | h9
    · exact (va_D_mem.mp hD).2 (x, e9) (List.mem_append_right _ (List.mem_of_getElem? h9))
    · exact C.2.2.2.2.2.2.2.1 x (Nat.le_trans hS.1 h9)
  have hGd : GoodIn tq_tbl (tq_ws y cy n none) := fun w hw => by
    rcases List.mem_cons.mp hw with rfl | h2
    · exact ⟨hco, good_of_word (List.mem_filter.mp hco).2⟩
    · exact tq_gT w h2
  refine va_callv (va_runI (As := []) (rest := st) ⟨C.1, C.2.1, C.2.2.1, C.2.2.2.1, C.2.2.2.2.1⟩ (hM l a q H.size) (cwI 0 C.2.2.2.2.1 hGd rfl rfl rfl (C.2.2.2.2.1 _ hini) (C.2.2.2.2.1 _ hl) (C.2.2.2.2.1 _ hin) hy1 hd0 ⟨Nat.le_trans (tq_rk_ok hrk).1 hR.1, Nat.le_trans (tq_rk_ok hrk).2 hR.2.1⟩) ⟨tq_blindI, fun U hU hW => ⟨rfl, by rw [hU], by rw [hU]; exact hPc, va_K.moved hW.alike hK, hDc, (C.2.2.2.2.2.2.2.2).warm hW⟩⟩ rfl rfl hlv.1 rfl (lv_room (Nat.le_of_ble_eq_true hrm)) hd ⟨Nat.le_trans hc hR.2.2.1, Nat.le_trans hs hR.2.2.2⟩) hS (fun x _ h => hF x h) hF (fun u t H1 locs1 ht hvm hw2 hB hz1 hk1 hS1 => ?_)
  obtain ⟨hP1, hD1⟩ := hB
  rw [ht] at hP1
  obtain ⟨hP2, hD2⟩ := va_joinC hP hD hk1 hF hP1 hD1
  exact g u H1 locs1 ls hP2 hD2 hS1 hlv
theorem gl_iconst {X : tq_Cx} {cc : ByteArray} {nL : Nat} {own : String} {kr : Nat} {ws : va_W} {nc ns : Nat} {pc : Nat} {lv : List (Nat × Value)} {st : List Value} {n : Int} {v : Int32} (C : tq_DL X cc nL own kr)  (hd : decode cc pc = .ok (.iconst n, 1)) (hv : Int32.ofInt n = v) (g : GoN X nL ws nc ns (pc + 1) lv (.int v :: st)) : GoN X nL ws nc ns pc lv (st) := by
  obtain ⟨p, l, e, R, s, m, args, below, meth, c, A, a, z, Q⟩ := X
  exact fun H locs ls hP hD hS hl => lv_iconst C.1 C.2.1 hd hv (g H locs ls hP hD hS hl)
theorem gl_dup {X : tq_Cx} {cc : ByteArray} {nL : Nat} {own : String} {kr : Nat} {ws : va_W} {nc ns : Nat} {pc : Nat} {lv : List (Nat × Value)} {st : List Value} {v : Value} (C : tq_DL X cc nL own kr)  (hd : decode cc pc = .ok (.dup, 1)) (hv : v.category = 1) (g : GoN X nL ws nc ns (pc + 1) lv (v :: v :: st)) : GoN X nL ws nc ns pc lv (v :: st) := by
  obtain ⟨p, l, e, R, s, m, args, below, meth, c, A, a, z, Q⟩ := X
  exact fun H locs ls hP hD hS hl => lv_dup C.1 C.2.1 hd hv (g H locs ls hP hD hS hl)
theorem gl_istore_n {X : tq_Cx} {cc : ByteArray} {nL : Nat} {own : String} {kr : Nat} {ws : va_W} {nc ns : Nat} {pc : Nat} {lv : List (Nat × Value)} {st : List Value} (C : tq_DL X cc nL own kr) {q : Fin 4} {i : Nat} {x : Int32} (hd : decode cc pc = .ok (.istore_n q, 1)) (lv' : List (Nat × Value)) (hi : (q : Nat) = i) (hn : i < nL) (hl' : (i, Value.int x) :: lv.filter (fun q => !(q.1 == i) && !(q.1 + 1 == i && q.2.category == 2)) = lv') (g : GoN X nL ws nc ns (pc + 1) lv' st) : GoN X nL ws nc ns pc lv (.int x :: st) := by
  obtain ⟨p, l, e, R, s, m, args, below, meth, c, A, a, z, Q⟩ := X
  exact fun H locs ls hP hD hS hl => lv_istore_n C.1 C.2.1 hd hi hl hn hl' (fun ls' hl2 => g H locs ls' hP hD hS hl2)
theorem gl_astore_n {X : tq_Cx} {cc : ByteArray} {nL : Nat} {own : String} {kr : Nat} {ws : va_W} {nc ns : Nat} {pc : Nat} {lv : List (Nat × Value)} {st : List Value} (C : tq_DL X cc nL own kr) {q : Fin 4} {i : Nat} {x : Nat} (hd : decode cc pc = .ok (.astore_n q, 1)) (lv' : List (Nat × Value)) (hi : (q : Nat) = i) (hn : i < nL) (hl' : (i, Value.ref x) :: lv.filter (fun q => !(q.1 == i) && !(q.1 + 1 == i && q.2.category == 2)) = lv') (g : GoN X nL ws nc ns (pc + 1) lv' st) : GoN X nL ws nc ns pc lv (.ref x :: st) := by
  obtain ⟨p, l, e, R, s, m, args, below, meth, c, A, a, z, Q⟩ := X
  exact fun H locs ls hP hD hS hl => lv_astore_n C.1 C.2.1 hd hi hl hn hl' (fun ls' hl2 => g H locs ls' hP hD hS hl2)
end GL
end
