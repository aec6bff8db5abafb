-- ALL THAT THERE IS: now, images, tape, fault, seen, sheets (lane, length, cells), torn
abbrev aQ : Type := aE × (Nat → Option aE) × (Nat × (Nat → Nat)) × Nat × (Nat × (Nat → Nat) × (Nat → Bool)) × (Nat → Option Nat × Nat × (Nat → Int32)) × Nat
abbrev qA (G : aQ) : aE := G.1
abbrev qI (G : aQ) : Nat → Option aE := G.2.1
abbrev qT (G : aQ) : Nat × (Nat → Nat) := G.2.2.1
abbrev qF (G : aQ) : Nat := G.2.2.2.1
abbrev qS (G : aQ) : Nat × (Nat → Nat) × (Nat → Bool) := G.2.2.2.2.1
abbrev qH (G : aQ) : Nat → Option Nat × Nat × (Nat → Int32) := G.2.2.2.2.2.1
abbrev qO (G : aQ) : Nat := G.2.2.2.2.2.2
abbrev vA (G : aQ) (A : aE) : aQ := (A, qI G, qT G, qF G, qS G, qH G, qO G)
abbrev vI (G : aQ) (x : Nat → Option aE) : aQ := (qA G, x, qT G, qF G, qS G, qH G, qO G)
abbrev vT (G : aQ) (x : Nat × (Nat → Nat)) : aQ := (qA G, qI G, x, qF G, qS G, qH G, qO G)
abbrev vF (G : aQ) (x : Nat) : aQ := (qA G, qI G, qT G, x, qS G, qH G, qO G)
abbrev vS (G : aQ) (x : Nat × (Nat → Nat) × (Nat → Bool)) : aQ := (qA G, qI G, qT G, qF G, x, qH G, qO G)
abbrev vH (G : aQ) (x : Nat → Option Nat × Nat × (Nat → Int32)) : aQ := (qA G, qI G, qT G, qF G, qS G, x, qO G)
abbrev vO (G : aQ) (x : Nat) : aQ := (qA G, qI G, qT G, qF G, qS G, qH G, x)
/-- what is always so -/
def wfQ (G : aQ) : Prop := wfE (qA G) ∧ (∀ k B, qI G k = some B → wfE B ∧ aN B = aN (qA G)) ∧ ((qT G).1 ≤ 160 ∧ ∀ i, (qT G).2 i < 128) ∧ qF G ≤ 6 ∧ ((qS G).1 ≤ 6 ∧ ∀ i, (qS G).2.1 i < 5) ∧ (∀ k l, (qH G k).1 = some l → l < 3) ∧ (∀ k, (qH G k).2.1 ≤ 40) ∧ qO G ≤ 3
def CI (S : tq_St) (k : Nat) (x : Option aE) : Prop := match x with
  | none => S.2.1 27 7 k = 0
  | some B => S.2.1 27 7 k = 1 ∧ RC S (17 + k) B
def CH (S : tq_St) (k : Nat) (x : Option Nat × Nat × (Nat → Int32)) : Prop := match x.1 with
  | none => S.1 (23 + k) 1 = 0
  | some l => S.1 (23 + k) 1 = 1 ∧ S.1 (23 + k) 2 = nI l ∧ S.1 (23 + k) 3 = nI x.2.1 ∧ ∀ i, i < 40 → S.2.1 (23 + k) 0 i = x.2.2 i
/-- the class holds G -/
def RQ (S : tq_St) (G : aQ) : Prop := RC S 0 (qA G) ∧ (∀ k, k < 2 → CI S k (qI G k)) ∧ (S.1 19 2 = nI (qT G).1 ∧ ∀ i, i < (qT G).1 → S.2.1 19 0 i = nI ((qT G).2 i)) ∧ S.1 19 3 = nI (qF G) ∧ (S.1 20 2 = nI (qS G).1 ∧ ∀ i, i < (qS G).1 → S.2.1 20 0 i = nI ((qS G).2.1 i) ∧ S.2.1 20 1 i = bI ((qS G).2.2 i)) ∧ (∀ k, k < 4 → CH S k (qH G k)) ∧ S.1 27 10 = nI (qO G)
/-- the reference's part is untouched -/
def FC (S S' : tq_St) : Prop := S'.1 28 = S.1 28 ∧ S'.2.1 28 = S.2.1 28
theorem FC.rf {S : tq_St} : FC S S := ⟨rfl, rfl⟩
theorem FC.tr {S T U : tq_St} (h : FC S T) (h2 : FC T U) : FC S U := ⟨h2.1.trans h.1, h2.2.trans h.2⟩
theorem Fr.fc {o : Nat} {S S' : tq_St} (h : Fr o S S') (ho : o ≠ 28) : FC S S' := h.1 28 (fun e => ho e.symm)
/-- only what is made anew at each use has changed -/
def FX (S S' : tq_St) : Prop := (∀ o, (o = 0 ∨ 17 ≤ o) → o ≠ 21 → o ≠ 22 → o ≠ 27 → S'.1 o = S.1 o ∧ S'.2.1 o = S.2.1 o) ∧ S'.1 27 = S.1 27 ∧ (∀ k, k ≠ 9 → S'.2.1 27 k = S.2.1 27 k)
theorem FX.rf {S : tq_St} : FX S S := ⟨fun _ _ _ _ _ => ⟨rfl, rfl⟩, rfl, fun _ _ => rfl⟩
theorem FX.tr {S T U : tq_St} (h : FX S T) (h2 : FX T U) : FX S U := ⟨fun o a b c d => ⟨((h2.1 o a b c d).1).trans (h.1 o a b c d).1, ((h2.1 o a b c d).2).trans (h.1 o a b c d).2⟩, h2.2.1.trans h.2.1, fun k hk => (h2.2.2 k hk).trans (h.2.2 k hk)⟩
theorem Fr.fx {o : Nat} {S S' : tq_St} (h : Fr o S S') (ho : (1 ≤ o ∧ o < 17) ∨ o = 21) : FX S S' := ⟨fun o' a b c d => h.1 o' (by omega), (h.1 27 (by omega)).1, fun k _ => by rw [(h.1 27 (by omega)).2]⟩
theorem FX.fc {S S' : tq_St} (h : FX S S') : FC S S' := h.1 28 (by omega) (by decide) (by decide) (by decide)
theorem RC.fx {S S' : tq_St} {o : Nat} {A : aE} (h : RC S o A) (f : FX S S') (ho : o = 0 ∨ o = 17 ∨ o = 18) : RC S' o A := by
  have := f.1 o (by omega) (by omega) (by omega) (by omega)
  unfold RC
  rw [this.1, this.2]
  exact h
theorem RQ.fx {S S' : tq_St} {G : aQ} (h : RQ S G) (f : FX S S') : RQ S' G := by
  obtain ⟨h1, h2, h3, h4, h5, h6, h7⟩ := h
  have f19 := f.1 19 (by omega) (by omega) (by omega) (by omega)
  have f20 := f.1 20 (by omega) (by omega) (by omega) (by omega)
  refine ⟨h1.fx f (Or.inl rfl), fun k hk => ?_, by rw [f19.1, f19.2]; exact h3, by rw [f19.1]; exact h4, by rw [f20.1, f20.2]; exact h5, fun k hk => ?_, by rw [f.2.1]; exact h7⟩
  · have := h2 k hk
    unfold CI at this ⊢
    split at this
    · rw [f.2.2 7 (by decide)]; exact this
    · rw [f.2.2 7 (by decide)]; exact ⟨this.1, this.2.fx f (by omega)⟩
  · have := h6 k hk
    have f23 := f.1 (23 + k) (by omega) (by omega) (by omega) (by omega)
    unfold CH at this ⊢
    rw [f23.1, f23.2]
    exact this
/-- now is changed -/
theorem RQ.now {S S' : tq_St} {G : aQ} (h : RQ S G) (f : Fr 0 S S') {A : aE} (hA : RC S' 0 A) : RQ S' (vA G A) := by
  obtain ⟨h1, h2, h3, h4, h5, h6, h7⟩ := h
  have f19 := f.1 19 (by decide)
  have f20 := f.1 20 (by decide)
  have f27 := f.1 27 (by decide)
  refine ⟨hA, fun k hk => ?_, by rw [f19.1, f19.2]; exact h3, by rw [f19.1]; exact h4, by rw [f20.1, f20.2]; exact h5, fun k hk => ?_, by rw [f27.1]; exact h7⟩
  · have h2 := h2 k hk
    show CI S' k (qI G k)
    unfold CI at h2 ⊢
    split at h2
    · rw [f27.2]; exact h2
    · rw [f27.2]; exact ⟨h2.1, h2.2.fr f (by omega)⟩
  · have h6 := h6 k hk
    have f23 := f.1 (23 + k) (by omega)
    show CH S' k (qH G k)
    unfold CH at h6 ⊢
    rw [f23.1, f23.2]
    exact h6
theorem wfQ.now {G : aQ} (h : wfQ G) {A : aE} (hw : wfE A) (hn : aN A = aN (qA G)) : wfQ (vA G A) := ⟨hw, fun k B e => ⟨(h.2.1 k B e).1, by rw [(h.2.1 k B e).2]; exact hn.symm⟩, h.2.2⟩
