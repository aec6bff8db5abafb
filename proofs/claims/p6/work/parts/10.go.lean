-- THE STATE: ints by object and field; int, byte and boolean arrays by object and field; Chances.whole; Chances.goneWeight
abbrev tq_St : Type := (Nat → Nat → Int32) × (Nat → Nat → Nat → Int32) × Int64 × (Nat → Int64)
def sI (S : tq_St) (o k : Nat) (v : Int32) : tq_St := (fun o' => if o' = o then upd (S.1 o) k v else S.1 o', S.2)
def sC (S : tq_St) (o k : Nat) (f : Nat → Int32) : tq_St := (S.1, fun o' => if o' = o then (fun k' => if k' = k then f else S.2.1 o k') else S.2.1 o', S.2.2)
def sA (S : tq_St) (o k i : Nat) (v : Int32) : tq_St := sC S o k (upd (S.2.1 o k) i v)
def sW (S : tq_St) (v : Int64) : tq_St := (S.1, S.2.1, v, S.2.2.2)
def sG (S : tq_St) (i : Nat) (v : Int64) : tq_St := (S.1, S.2.1, S.2.2.1, vp_updL S.2.2.2 i v)
-- THE LAYOUT: the address of each cell (object o: place 0; the array in its field k: place k + 1), the classes' numbers, the array classes
abbrev tq_La : Type := (Nat → Nat → Nat) × va_G × (Nat → ClassId)
def tq_ty (a : tq_La) : List (ClassId × FieldType) := [(a.2.2 0, .int), (a.2.2 1, .byte), (a.2.2 2, .boolean), (a.2.2 3, .long), (a.2.2 4, .object "TearsQueue$Evening"), (a.2.2 5, .object "TearsQueue$Sheet")]
-- the cells of each object
def gcE (a : tq_La) (o : Nat) (I : Nat → Int32) (B : Nat → Nat → Int32) (r : Nat) : va_E := match r with
  | 0 => .inr (1, [.ref (a.1 o 1), .ref (a.1 o 2), .ref (a.1 o 3), .ref (a.1 o 4), .ref (a.1 o 5), .int (I 5), .int (I 6), .int (I 7), .int (I 8), .int (I 9), .int (I 10), .int (I 11), .int (I 12), .int (I 13)])
  | 4 => .inl (a.2.2 0, 8, .inl (B 3))
  | k + 1 => .inl (a.2.2 0, 5, .inl (B k))
def gcS (a : tq_La) (o : Nat) (I : Nat → Int32) (B : Nat → Nat → Int32) (r : Nat) : va_E := match r with
  | 0 => .inr (3, [.ref (a.1 o 1), .int (I 1), .int (I 2), .int (I 3)])
  | _ => .inl (a.2.2 0, 40, .inl (B 0))
def gcT (a : tq_La) (I : Nat → Int32) (B : Nat → Nat → Int32) (r : Nat) : va_E := match r with
  | 0 => .inr (5, [.ref (a.1 19 1), .ref (a.1 2 0), .int (I 2), .int (I 3), .int (I 4), .int (I 5), .int (I 6), .int (I 7), .int (I 8), .int (I 9)])
  | _ => .inl (a.2.2 1, 160, .inl (B 0))
def gcG (a : tq_La) (I : Nat → Int32) (B : Nat → Nat → Int32) (r : Nat) : va_E := match r with
  | 0 => .inr (4, [.ref (a.1 20 1), .ref (a.1 20 2), .int (I 2)])
  | 1 => .inl (a.2.2 0, 6, .inl (B 0))
  | _ => .inl (a.2.2 2, 6, .inl (B 1))
def gcR (a : tq_La) (I : Nat → Int32) (B : Nat → Nat → Int32) (r : Nat) : va_E := match r with
  | 0 => .inr (2, [.ref (a.1 21 1), .ref (a.1 21 2), .ref (a.1 21 3), .int (I 3), .int (I 4), .int (I 5)])
  | 1 => .inl (a.2.2 4, 5, .inr (.inr (.inr (.inr (fun i => some (a.1 (3 + i) 0))))))
  | 2 => .inl (a.2.2 0, 4, .inl (B 1))
  | _ => .inl (a.2.2 0, 4, .inl (B 2))
def gcC (a : tq_La) (w : Int64) (g : Nat → Int64) (r : Nat) : va_E := match r with
  | 0 => .inr (0, [.ref (a.1 22 1), .ref (a.1 22 2), .long w])
  | 1 => .inl (a.2.2 4, 9, .inr (.inr (.inr (.inr (fun i => some (a.1 (8 + i) 0))))))
  | _ => .inl (a.2.2 3, 5, .inr (.inl g))
def gcQ (a : tq_La) (I : Nat → Int32) (B : Nat → Nat → Int32) (r : Nat) : va_E := match r with
  | 0 => .inr (6, [.ref (a.1 0 0), .ref (a.1 1 0), .ref (a.1 19 0), .ref (a.1 20 0), .ref (a.1 21 0), .ref (a.1 22 0), .ref (a.1 27 7), .ref (a.1 27 8), .ref (a.1 27 9), .ref (a.1 27 10), .int (I 10)])
  | 7 => .inl (a.2.2 4, 2, .inr (.inr (.inr (.inr (fun i => some (a.1 (17 + i) 0))))))
  | 8 => .inl (a.2.2 2, 2, .inl (B 7))
  | 9 => .inl (a.2.2 5, 4, .inr (.inr (.inr (.inr (fun i => some (a.1 (23 + i) 0))))))
  | _ => .inl (a.2.2 0, 21, .inl (B 9))
def gcM (a : tq_La) (I : Nat → Int32) (B : Nat → Nat → Int32) (r : Nat) : va_E := match r with
  | 0 => .inr (7, [.ref (a.1 28 1), .ref (a.1 28 2), .int (I 2), .ref (a.1 28 4), .int (I 4), .int (I 5), .int (I 6), .ref (a.1 28 8), .int (I 8), .int (I 9), .int (I 10), .int (I 11), .int (I 12), .int (I 13), .int (I 14), .int (I 15), .ref (a.1 28 17), .ref (a.1 28 18), .int (I 18), .int (I 19), .int (I 20), .ref (a.1 28 22), .int (I 22), .ref (a.1 28 24), .ref (a.1 28 25), .ref (a.1 28 26), .ref (a.1 28 27), .ref (a.1 28 28), .int (I 28)])
  | 1 => .inl (a.2.2 0, 168, .inl (B 0))
  | 2 => .inl (a.2.2 0, 4, .inl (B 1))
  | 4 => .inl (a.2.2 0, 28, .inl (B 3))
  | 8 => .inl (a.2.2 0, 160, .inl (B 7))
  | 17 => .inl (a.2.2 0, 8, .inl (B 16))
  | 18 => .inl (a.2.2 0, 29, .inl (B 17))
  | 22 => .inl (a.2.2 0, 12, .inl (B 21))
  | 24 => .inl (a.2.2 0, 21, .inl (B 23))
  | 25 => .inl (a.2.2 2, 2, .inl (B 24))
  | 26 => .inl (a.2.2 0, 4, .inl (B 25))
  | 27 => .inl (a.2.2 0, 4, .inl (B 26))
  | _ => .inl (a.2.2 0, 160, .inl (B 27))
def gcx (a : tq_La) (o : Nat) (I : Nat → Int32) (B : Nat → Nat → Int32) (w : Int64) (g : Nat → Int64) (r : Nat) : va_E :=
  if o < 19 then gcE a o I B r else match o with
  | 19 => gcT a I B r
  | 20 => gcG a I B r
  | 21 => gcR a I B r
  | 22 => gcC a w g r
  | 27 => gcQ a I B r
  | 28 => gcM a I B r
  | _ => gcS a o I B r
def tq_gc (a : tq_La) (S : tq_St) (o r : Nat) : va_E := gcx a o (S.1 o) (S.2.1 o) S.2.2.1 S.2.2.2 r
def tq_evc : List (Nat × Nat) := (List.range 19).flatMap (fun o => (List.range 6).map (fun r => (o, r)))
def tq_otc : List (Nat × Nat) := [(19, 0), (19, 1), (20, 0), (20, 1), (20, 2), (21, 0), (21, 1), (21, 2), (21, 3), (22, 0), (22, 1), (22, 2), (23, 0), (23, 1), (24, 0), (24, 1), (25, 0), (25, 1), (26, 0), (26, 1), (27, 0), (27, 7), (27, 8), (27, 9), (27, 10), (28, 0), (28, 1), (28, 2), (28, 4), (28, 8), (28, 17), (28, 18), (28, 22), (28, 24), (28, 25), (28, 26), (28, 27), (28, 28)]
def tq_cids : List (Nat × Nat) := tq_evc ++ tq_otc
def tq_W (a : tq_La) (S : tq_St) : va_W := tq_cids.map (fun q => (a.1 q.1 q.2, tq_gc a S q.1 q.2))
theorem tq_nodup : tq_cids.Nodup := by decide +kernel
theorem tq_ndi {α : Type} {l : List α} (h : l.Nodup) {i j : Nat} {x : α} (hi : l[i]? = some x) (hj : l[j]? = some x) : i = j := by
  induction l generalizing i j with
  | nil => simp at hi
  | cons y t ih =>
    obtain ⟨h1, h2⟩ := List.nodup_cons.mp h
    cases i with
    | zero => cases j with
      | zero => rfl
      | succ j => simp at hi hj; subst hi; exact absurd (List.mem_of_getElem? hj) h1
    | succ i => cases j with
      | zero => simp at hi hj; subst hj; exact absurd (List.mem_of_getElem? hi) h1
      | succ j => simp at hi hj; rw [ih h2 hi hj]
theorem tq_inE {o : Nat} (h : o < 19) : ∀ r, r < 6 → (o, r) ∈ tq_cids := by
  have h1 : ∀ o, o < 19 → ∀ r, r < 6 → (o, r) ∈ tq_cids := by decide +kernel
  exact h1 o h
theorem tq_inS {o : Nat} (h : 23 ≤ o ∧ o < 27) : ∀ r, r < 2 → (o, r) ∈ tq_cids := by
  have h1 : ∀ o, o < 4 → ∀ r, r < 2 → (23 + o, r) ∈ tq_cids := by decide +kernel
  have h2 := h1 (o - 23) (by omega)
  rwa [show 23 + (o - 23) = o by omega] at h2
theorem tq_at (a : tq_La) (S : tq_St) {o r : Nat} (h : (o, r) ∈ tq_cids) : ∃ k : Nat, tq_cids[k]? = some (o, r) ∧ (tq_W a S)[k]? = some (a.1 o r, tq_gc a S o r) := by
  obtain ⟨k, hk⟩ := List.mem_iff_getElem?.mp h
  exact ⟨k, hk, by simp [tq_W, hk]⟩
theorem tq_set (a : tq_La) (S S' : tq_St) {o r k : Nat} {x : va_E} (hk : tq_cids[k]? = some (o, r)) (hx : tq_gc a S' o r = x) (hn : ∀ o' r', (o', r') ∈ tq_cids → ¬ (o' = o ∧ r' = r) → tq_gc a S' o' r' = tq_gc a S o' r') : (tq_W a S).set k (a.1 o r, x) = tq_W a S' := by
  apply List.ext_getElem?
  intro j
  rw [List.getElem?_set]
  by_cases hj : k = j
  · subst hj
    have hl : k < (tq_W a S).length := by
      have := (List.getElem?_eq_some_iff.mp hk).1
      simpa [tq_W] using this
    rw [if_pos rfl, if_pos hl]
    simp [tq_W, hk, hx]
  · rw [if_neg hj]
    cases hc : tq_cids[j]? with
    | none => simp [tq_W, hc]
    | some q =>
      have hq : ¬ (q.1 = o ∧ q.2 = r) := by
        rintro ⟨h1, h2⟩
        have hqe : q = (o, r) := Prod.ext h1 h2
        subst hqe
        exact hj (tq_ndi tq_nodup hk hc)
      simp [tq_W, hc, hn q.1 q.2 (List.mem_of_getElem? hc) hq]
