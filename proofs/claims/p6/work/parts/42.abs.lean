-- BITS of small numbers
theorem s_l : ∀ n, n < 32 → ((nI n &&& 31).toBitVec.smod 32).toNat = n := by decide +kernel
theorem s_u : ∀ n, n < 32 → (((nI n).toUInt32 &&& Int32.toUInt32 31).toBitVec % 32).toNat = n := by decide +kernel
theorem zb_val {g j : Nat} (hg : g < 2 ^ 31) (hj : j < 31) : ((nI g) >>> ((nI j) &&& 31)) &&& 1 = nI (if g.testBit j then 1 else 0) := by
  rw [pk_shrN hg _ j (s_l j (by omega))]
  have h1 : g / 2 ^ j < 2 ^ 32 := Nat.lt_of_le_of_lt (Nat.div_le_self _ _) (by omega)
  rw [pk_andN h1 (m := 1) 1 (by decide)]
  congr 1
  rw [Nat.testBit_eq_decide_div_mod_eq]
  have h2 : g / 2 ^ j % 2 < 2 := Nat.mod_lt _ (by decide)
  by_cases h : g / 2 ^ j % 2 = 1
  · simp [h]
  · have h3 : g / 2 ^ j % 2 = 0 := by omega
    simp [h3]
theorem zb_0 {g j : Nat} (hg : g < 2 ^ 31) (hj : j < 31) : (((nI g) >>> ((nI j) &&& 31)) &&& 1 : Int32) = 0 ↔ g.testBit j = false := by
  rw [zb_val hg hj]
  cases g.testBit j <;> simp <;> decide
theorem zb_1 {g j : Nat} (hg : g < 2 ^ 31) (hj : j < 31) : (((nI g) >>> ((nI j) &&& 31)) &&& 1 : Int32) = 1 ↔ g.testBit j = true := by
  rw [zb_val hg hj]
  cases g.testBit j <;> simp <;> decide
theorem zb_shl {q : Nat} (hq : q < 31) : (1 : Int32) <<< ((nI q) &&& 31) = nI (2 ^ q) := by
  have h : (1 : Int32) = nI 1 := rfl
  have h2 : 2 ^ q < 2 ^ 31 := Nat.pow_lt_pow_right (by decide) hq
  rw [h, pk_shlN _ q (s_l q (by omega)) (by omega), Nat.one_mul]
theorem zb_or {w q : Nat} (hq : q < 31) : nI w ||| ((1 : Int32) <<< ((nI q) &&& 31)) = nI (w ||| 2 ^ q) := by
  rw [zb_shl hq, fa_or]
theorem zb_orlt {w q k : Nat} (hw : w < 2 ^ k) (hq : q < k) : w ||| 2 ^ q < 2 ^ k := Nat.or_lt_two_pow hw (Nat.pow_lt_pow_right (by decide) hq)
theorem zb_p31 {n : Nat} (h : n ≤ 5) : 2 ^ n ≤ 32 := by
  have h1 : n = 0 ∨ n = 1 ∨ n = 2 ∨ n = 3 ∨ n = 4 ∨ n = 5 := by omega
  rcases h1 with h | h | h | h | h | h <;> subst h <;> decide
-- THE STATE'S PARTS
theorem sI_1 (S : tq_St) (o k : Nat) (v : Int32) (k' : Nat) : (sI S o k v).1 o k' = if k' = k then v else S.1 o k' := by
  simp [sI, upd]
theorem sI_1n (S : tq_St) {o k : Nat} {v : Int32} {o' : Nat} (h : o' ≠ o) : (sI S o k v).1 o' = S.1 o' := by simp [sI, h]
theorem sI_2 (S : tq_St) (o k : Nat) (v : Int32) : (sI S o k v).2 = S.2 := rfl
theorem sC_1 (S : tq_St) (o k : Nat) (f : Nat → Int32) : (sC S o k f).1 = S.1 := rfl
theorem sC_2 (S : tq_St) (o k : Nat) (f : Nat → Int32) (k' : Nat) : (sC S o k f).2.1 o k' = if k' = k then f else S.2.1 o k' := by simp [sC]
theorem sC_2n (S : tq_St) {o k : Nat} {f : Nat → Int32} {o' : Nat} (h : o' ≠ o) : (sC S o k f).2.1 o' = S.2.1 o' := by simp [sC, h]
theorem sC_3 (S : tq_St) (o k : Nat) (f : Nat → Int32) : (sC S o k f).2.2 = S.2.2 := rfl
theorem sA_1 (S : tq_St) (o k i : Nat) (v : Int32) : (sA S o k i v).1 = S.1 := rfl
theorem sA_2 (S : tq_St) (o k i : Nat) (v : Int32) (k' : Nat) : (sA S o k i v).2.1 o k' = if k' = k then upd (S.2.1 o k) i v else S.2.1 o k' := by simp [sA, sC]
theorem sA_2n (S : tq_St) {o k i : Nat} {v : Int32} {o' : Nat} (h : o' ≠ o) : (sA S o k i v).2.1 o' = S.2.1 o' := by simp [sA, sC, h]
theorem sA_3 (S : tq_St) (o k i : Nat) (v : Int32) : (sA S o k i v).2.2 = S.2.2 := rfl
theorem sA_at (S : tq_St) (o k i : Nat) (v : Int32) (j : Nat) : (sA S o k i v).2.1 o k j = if j = i then v else S.2.1 o k j := by simp [sA, sC, upd]
theorem sA_nk (S : tq_St) (o k i : Nat) (v : Int32) {k' : Nat} (h : k' ≠ k) : (sA S o k i v).2.1 o k' = S.2.1 o k' := by simp [sA, sC, h]
/-- nothing but object o has changed -/
def Fr (o : Nat) (S S' : tq_St) : Prop := (∀ o', o' ≠ o → S'.1 o' = S.1 o' ∧ S'.2.1 o' = S.2.1 o') ∧ S'.2.2 = S.2.2
theorem Fr.rf {o : Nat} {S : tq_St} : Fr o S S := ⟨fun _ _ => ⟨rfl, rfl⟩, rfl⟩
theorem Fr.tr {o : Nat} {S T U : tq_St} (h : Fr o S T) (h2 : Fr o T U) : Fr o S U := ⟨fun o' ho => ⟨((h2.1 o' ho).1).trans (h.1 o' ho).1, ((h2.1 o' ho).2).trans (h.1 o' ho).2⟩, h2.2.trans h.2⟩
theorem Fr.I {o : Nat} {S T : tq_St} (h : Fr o S T) (k : Nat) (v : Int32) : Fr o S (sI T o k v) := ⟨fun o' ho => ⟨(sI_1n T ho).trans (h.1 o' ho).1, (h.1 o' ho).2⟩, h.2⟩
theorem Fr.A {o : Nat} {S T : tq_St} (h : Fr o S T) (k i : Nat) (v : Int32) : Fr o S (sA T o k i v) := ⟨fun o' ho => ⟨(h.1 o' ho).1, (sA_2n T ho).trans (h.1 o' ho).2⟩, h.2⟩
theorem Fr.C {o : Nat} {S T : tq_St} (h : Fr o S T) (k : Nat) (f : Nat → Int32) : Fr o S (sC T o k f) := ⟨fun o' ho => ⟨(h.1 o' ho).1, (sC_2n T ho).trans (h.1 o' ho).2⟩, h.2⟩
-- AN EVENING: people, kind, sorrow, wept (0: never, else the minute and 1), gone (bits), minute, room, think, how many acts, acts
abbrev aE : Type := Nat × (Nat → Nat) × (Nat → Nat) × (Nat → Nat) × Nat × Nat × Nat × Nat × Nat × (Nat → Nat)
abbrev aN (A : aE) : Nat := A.1
abbrev aK (A : aE) : Nat → Nat := A.2.1
abbrev aS (A : aE) : Nat → Nat := A.2.2.1
abbrev aW (A : aE) : Nat → Nat := A.2.2.2.1
abbrev aG (A : aE) : Nat := A.2.2.2.2.1
abbrev aM (A : aE) : Nat := A.2.2.2.2.2.1
abbrev aR (A : aE) : Nat := A.2.2.2.2.2.2.1
abbrev aT (A : aE) : Nat := A.2.2.2.2.2.2.2.1
abbrev aC (A : aE) : Nat := A.2.2.2.2.2.2.2.2.1
abbrev aA (A : aE) : Nat → Nat := A.2.2.2.2.2.2.2.2.2
abbrev uK (A : aE) (f : Nat → Nat) : aE := (aN A, f, aS A, aW A, aG A, aM A, aR A, aT A, aC A, aA A)
abbrev uS (A : aE) (f : Nat → Nat) : aE := (aN A, aK A, f, aW A, aG A, aM A, aR A, aT A, aC A, aA A)
abbrev uW (A : aE) (f : Nat → Nat) : aE := (aN A, aK A, aS A, f, aG A, aM A, aR A, aT A, aC A, aA A)
abbrev uG (A : aE) (g : Nat) : aE := (aN A, aK A, aS A, aW A, g, aM A, aR A, aT A, aC A, aA A)
abbrev uM (A : aE) (m : Nat) : aE := (aN A, aK A, aS A, aW A, aG A, m, aR A, aT A, aC A, aA A)
abbrev uR (A : aE) (r : Nat) : aE := (aN A, aK A, aS A, aW A, aG A, aM A, r, aT A, aC A, aA A)
abbrev uT (A : aE) (t : Nat) : aE := (aN A, aK A, aS A, aW A, aG A, aM A, aR A, t, aC A, aA A)
abbrev uP (A : aE) (c : Nat) (f : Nat → Nat) : aE := (aN A, aK A, aS A, aW A, aG A, aM A, aR A, aT A, c, f)
/-- a function changed at a place -/
def un {α : Type} (f : Nat → α) (k : Nat) (v : α) : Nat → α := fun j => if j = k then v else f j
theorem un_s {α : Type} (f : Nat → α) (k : Nat) (v : α) : un f k v k = v := by simp [un]
theorem un_n {α : Type} (f : Nat → α) {k j : Nat} (v : α) (h : j ≠ k) : un f k v j = f j := by simp [un, h]
def wfE (A : aE) : Prop := aN A ≤ 5 ∧ (∀ p, aK A p < 4) ∧ (∀ p, aS A p ≤ 40) ∧ (∀ p, aW A p ≤ 1000) ∧ aG A < 2 ^ aN A ∧ aM A ≤ 999 ∧ (1 ≤ aR A ∧ aR A ≤ 5) ∧ (1 ≤ aT A ∧ aT A ≤ 9) ∧ aC A ≤ 8 ∧ ∀ i, i < aC A → aA A i < aN A ∨ aA A i = 5 ∨ aA A i = 6
/-- object o of the class holds the evening A -/
def RC (S : tq_St) (o : Nat) (A : aE) : Prop := S.1 o 5 = nI (aN A) ∧ S.1 o 6 = nI (aG A) ∧ S.1 o 7 = nI (aM A) ∧ S.1 o 8 = nI (aR A) ∧ S.1 o 9 = nI (aT A) ∧ S.1 o 10 = nI (aC A) ∧ (∀ p, p < aN A → S.2.1 o 0 p = nI (aK A p)) ∧ (∀ p, p < aN A → S.2.1 o 1 p = nI (aS A p)) ∧ (∀ p, p < aN A → S.2.1 o 2 p = nI (aW A p) - 1) ∧ ∀ i, i < aC A → S.2.1 o 3 i = nI (aA A i)
/-- a place or NONE -/
def oI (q : Option Nat) : Int32 := match q with
  | none => -4
  | some j => nI j
theorem oI_ne {j : Nat} (h : j < 2 ^ 31) : ¬ nI j = -4 := by
  intro e
  have h1 := nI_toInt h
  rw [e] at h1
  have h2 : ((-4 : Int32)).toInt = -4 := by decide
  omega
