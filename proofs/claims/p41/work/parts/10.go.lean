section
-- THE STATE: ints by object and field; int, byte and boolean arrays by object and field; Chances.whole; Chances.goneWeight
abbrev tq_St : Type := (Nat → Nat → Int32) × (Nat → Nat → Nat → Int32) × Int64 × (Nat → Int64)
def sI (S : tq_St) (o k : Nat) (v : Int32) : tq_St := (fun o' => if o' = o then upd (S.1 o) k v else S.1 o', S.2)
def sC (S : tq_St) (o k : Nat) (f : Nat → Int32) : tq_St := (S.1, fun o' => if o' = o then (fun k' => if k' = k then f else S.2.1 o k') else S.2.1 o', S.2.2)
def sA (S : tq_St) (o k i : Nat) (v : Int32) : tq_St := sC S o k (upd (S.2.1 o k) i v)
def sW (S : tq_St) (v : Int64) : tq_St := (S.1, S.2.1, v, S.2.2.2)
def sG (S : tq_St) (i : Nat) (v : Int64) : tq_St := (S.1, S.2.1, S.2.2.1, vp_updL S.2.2.2 i v)
-- THE LAYOUT: the address of each cell (object o: place 0; the array in its field k: place k + 1), the classes' numbers, the array classes
abbrev tq_La : Type := (Nat → Nat → Nat) × va_G × (Nat → ClassId)
def tq_ty (a : tq_La) : List (ClassId × FieldType) := [(a.2.2 0, .int), (a.2.2 1, .byte), (a.2.2 2, .boolean), (a.2.2 3, .long), (a.2.2 4, .object "TearsQueue$Evening"), (a.2.2 5, .object "TearsQueue$Sheet")]
-- the cells of each object
def gcE (a : tq_La) (o : Nat) (I : Nat → Int32) (B : Nat → Nat → Int32) (r : Nat) : va_E := match r with
  | 0 => .inr (1, [.ref (a.1 o 1), .ref (a.1 o 2), .ref (a.1 o 3), .ref (a.1 o 4), .ref (a.1 o 5), .int (I 5), .int (I 6), .int (I 7), .int (I 8), .int (I 9), .int (I 10), .int (I 11), .int (I 12), .int (I 13)])
  | 4 => .inl (a.2.2 0, 8, .inl (B 3))
  | k + 1 => .inl (a.2.2 0, 5, .inl (B k))
def gcS (a : tq_La) (o : Nat) (I : Nat → Int32) (B : Nat → Nat → Int32) (r : Nat) : va_E := match r with
  | 0 => .inr (3, [.ref (a.1 o 1), .int (I 1), .int (I 2), .int (I 3)])
  | _ => .inl (a.2.2 0, 40, .inl (B 0))
def gcT (a : tq_La) (I : Nat → Int32) (B : Nat → Nat → Int32) (r : Nat) : va_E := match r with
  | 0 => .inr (5, [.ref (a.1 19 1), .ref (a.1 2 0), .int (I 2), .int (I 3), .int (I 4), .int (I 5), .int (I 6), .int (I 7), .int (I 8), .int (I 9)])
  | _ => .inl (a.2.2 1, 160, .inl (B 0))
def gcG (a : tq_La) (I : Nat → Int32) (B : Nat → Nat → Int32) (r : Nat) : va_E := match r with
  | 0 => .inr (4, [.ref (a.1 20 1), .ref (a.1 20 2), .int (I 2)])
  | 1 => .inl (a.2.2 0, 6, .inl (B 0))
  | _ => .inl (a.2.2 2, 6, .inl (B 1))
def gcR (a : tq_La) (I : Nat → Int32) (B : Nat → Nat → Int32) (r : Nat) : va_E := match r with
  | 0 => .inr (2, [.ref (a.1 21 1), .ref (a.1 21 2), .ref (a.1 21 3), .int (I 3), .int (I 4), .int (I 5)])
  | 1 => .inl (a.2.2 4, 5, .inr (.inr (.inr (.inr (fun i => some (a.1 (3 + i) 0))))))
  | 2 => .inl (a.2.2 0, 4, .inl (B 1))
  | _ => .inl (a.2.2 0, 4, .inl (B 2))
def gcC (a : tq_La) (w : Int64) (g : Nat → Int64) (r : Nat) : va_E := match r with
  | 0 => .inr (0, [.ref (a.1 22 1), .ref (a.1 22 2), .long w])
  | 1 => .inl (a.2.2 4, 9, .inr (.inr (.inr (.inr (fun i => some (a.1 (8 + i) 0))))))
  | _ => .inl (a.2.2 3, 5, .inr (.inl g))
def gcQ (a : tq_La) (I : Nat → Int32) (B : Nat → Nat → Int32) (r : Nat) : va_E := match r with
  | 0 => .inr (6, [.ref (a.1 0 0), .ref (a.1 1 0), .ref (a.1 19 0), .ref (a.1 20 0), .ref (a.1 21 0), .ref (a.1 22 0), .ref (a.1 27 7), .ref (a.1 27 8), .ref (a.1 27 9), .ref (a.1 27 10), .int (I 10)])
  | 7 => .inl (a.2.2 4, 2, .inr (.inr (.inr (.inr (fun i => some (a.1 (17 + i) 0))))))
  | 8 => .inl (a.2.2 2, 2, .inl (B 7))
  | 9 => .inl (a.2.2 5, 4, .inr (.inr (.inr (.inr (fun i => some (a.1 (23 + i) 0))))))
  | _ => .inl (a.2.2 0, 21, .inl (B 9))
def gcM (a : tq_La) (I : Nat → Int32) (B : Nat → Nat → Int32) (r : Nat) : va_E := match r with
  | 0 => .inr (7, [.ref (a.1 28 1), .ref (a.1 28 2), .int (I 2), .ref (a.1 28 4), .int (I 4), .int (I 5), .int (I 6), .ref (a.1 28 8), .int (I 8), .int (I 9), .int (I 10), .int (I 11), .int (I 12), .int (I 13), .int (I 14), .int (I 15), .ref (a.1 28 17), .ref (a.1 28 18), .int (I 18), .int (I 19), .int (I 20), .ref (a.1 28 22), .int (I 22), .ref (a.1 28 24), .ref (a.1 28 25), .ref (a.1 28 26), .ref (a.1 28 27), .ref (a.1 28 28), .int (I 28)])
  | 1 => .inl (a.2.2 0, 168, .inl (B 0))
  | 2 => .inl (a.2.2 0, 4, .inl (B 1))
  | 4 => .inl (a.2.2 0, 28, .inl (B 3))
  | 8 => .inl (a.2.2 0, 160, .inl (B 7))
  | 17 => .inl (a.2.2 0, 8, .inl (B 16))
  | 18 => .inl (a.2.2 0, 29, .inl (B 17))
  | 22 => .inl (a.2.2 0, 12, .inl (B 21))
  | 24 => .inl (a.2.2 0, 21, .inl (B 23))
  | 25 => .inl (a.2.2 2, 2, .inl (B 24))
  | 26 => .inl (a.2.2 0, 4, .inl (B 25))
  | 27 => .inl (a.2.2 0, 4, .inl (B 26))
  | _ => .inl (a.2.2 0, 160, .inl (B 27))
def gcx (a : tq_La) (o : Nat) (I : Nat → Int32) (B : Nat → Nat → Int32) (w : Int64) (g : Nat → Int64) (r : Nat) : va_E :=
  if o < 19 then gcE a o I B r else match o with
  | 19 => gcT a I B r
  | 20 => gcG a I B r
  | 21 => gcR a I B r
  | 22 => gcC a w g r
  | 27 => gcQ a I B r
  | 28 => gcM a I B r
  | _ => gcS a o I B r
def tq_gc (a : tq_La) (S : tq_St) (o r : Nat) : va_E := gcx a o (S.1 o) (S.2.1 o) S.2.2.1 S.2.2.2 r
def tq_evc : List (Nat × Nat) := (List.range 19).flatMap (fun o => (List.range 6).map (fun r => (o, r)))
def tq_otc : List (Nat × Nat) := [(19, 0), (19, 1), (20, 0), (20, 1), (20, 2), (21, 0), (21, 1), (21, 2), (21, 3), (22, 0), (22, 1), (22, 2), (23, 0), (23, 1), (24, 0), (24, 1), (25, 0), (25, 1), (26, 0), (26, 1), (27, 0), (27, 7), (27, 8), (27, 9), (27, 10), (28, 0), (28, 1), (28, 2), (28, 4), (28, 8), (28, 17), (28, 18), (28, 22), (28, 24), (28, 25), (28, 26), (28, 27), (28, 28)]
def tq_cids : List (Nat × Nat) := tq_evc ++ tq_otc
def tq_W (a : tq_La) (S : tq_St) : va_W := tq_cids.map (fun q => (a.1 q.1 q.2, tq_gc a S q.1 q.2))
theorem tq_nodup : tq_cids.Nodup := by decide +kernel
theorem tq_ndi {α : Type} {l : List α} (h : l.Nodup) {i j : Nat} {x : α} (hi : l[i]? = some x) (hj : l[j]? = some x) : i = j := by
  induction l generalizing i j with
  | nil => simp at hi
  | cons y t ih =>
    obtain ⟨h1, h2⟩ := List.nodup_cons.mp h
    cases i with
    | zero => cases j with
      | zero => rfl
      | succ j => simp at hi hj; subst hi; exact absurd (List.mem_of_getElem? hj) h1
    | succ i => cases j with
      | zero => simp at hi hj; subst hj; exact absurd (List.mem_of_getElem? hi) h1
      | succ j => simp at hi hj; rw [ih h2 hi hj]
theorem tq_inE {o : Nat} (h : o < 19) : ∀ r, r < 6 → (o, r) ∈ tq_cids := by
  have h1 : ∀ o, o < 19 → ∀ r, r < 6 → (o, r) ∈ tq_cids := by decide +kernel
  exact h1 o h
theorem tq_inS {o : Nat} (h : 23 ≤ o ∧ o < 27) : ∀ r, r < 2 → (o, r) ∈ tq_cids := by
  have h1 : ∀ o, o < 4 → ∀ r, r < 2 → (23 + o, r) ∈ tq_cids := by decide +kernel
  have h2 := h1 (o - 23) (by omega)
  rwa [show 23 + (o - 23) = o by omega] at h2
theorem tq_at (a : tq_La) (S : tq_St) {o r : Nat} (h : (o, r) ∈ tq_cids) : ∃ k : Nat, tq_cids[k]? = some (o, r) ∧ (tq_W a S)[k]? = some (a.1 o r, tq_gc a S o r) := by
  obtain ⟨k, hk⟩ := List.mem_iff_getElem?.mp h
  exact ⟨k, hk, by simp [tq_W, hk]⟩
theorem tq_set (a : tq_La) (S S' : tq_St) {o r k : Nat} {x : va_E} (hk : tq_cids[k]? = some (o, r)) (hx : tq_gc a S' o r = x) (hn : ∀ o' r', (o', r') ∈ tq_cids → ¬ (o' = o ∧ r' = r) → tq_gc a S' o' r' = tq_gc a S o' r') : (tq_W a S).set k (a.1 o r, x) = tq_W a S' := by
  apply List.ext_getElem?
  intro j
  rw [List.getElem?_set]
  by_cases hj : k = j
  · subst hj
    have hl : k < (tq_W a S).length := by
      have := (List.getElem?_eq_some_iff.mp hk).1
      simpa [tq_W] using this
    rw [if_pos rfl, if_pos hl]
    simp [tq_W, hk, hx]
  · rw [if_neg hj]
    cases hc : tq_cids[j]? with
    | none => simp [tq_W, hc]
    | some q =>
      have hq : ¬ (q.1 = o ∧ q.2 = r) := by
        rintro ⟨h1, h2⟩
        have hqe : q = (o, r) := Prod.ext h1 h2
        subst hqe
        exact hj (tq_ndi tq_nodup hk hc)
      simp [tq_W, hc, hn q.1 q.2 (List.mem_of_getElem? hc) hq]
end
section
-- what each store does to the cells
theorem gcx_ne0 (a : tq_La) (o : Nat) (I I' : Nat → Int32) (B : Nat → Nat → Int32) (w w' : Int64) (g : Nat → Int64) {r : Nat} (hr : r ≠ 0) : gcx a o I B w g r = gcx a o I' B w' g r := by
  obtain ⟨k, rfl⟩ : ∃ k, r = k + 1 := ⟨r - 1, by omega⟩
  unfold gcx
  by_cases h : o < 19
  · rw [if_pos h, if_pos h]; unfold gcE; split <;> simp_all
  · rw [if_neg h, if_neg h]
    split
    · unfold gcT; rfl
    · unfold gcG; split <;> simp_all
    · unfold gcR; split <;> simp_all
    · unfold gcC; split <;> simp_all
    · unfold gcQ; split <;> simp_all
    · unfold gcM; split <;> simp_all
    · unfold gcS; rfl
theorem tq_gcI (a : tq_La) (S : tq_St) (o k : Nat) (v : Int32) : ∀ o' r', (o', r') ∈ tq_cids → ¬ (o' = o ∧ r' = 0) → tq_gc a (sI S o k v) o' r' = tq_gc a S o' r' := by
  intro o' r' hm h
  unfold tq_gc sI
  by_cases ho : o' = o
  · subst ho
    exact gcx_ne0 a o' _ _ _ _ _ _ (fun hr => h ⟨rfl, hr⟩)
  · simp only [if_neg ho]
theorem tq_gcW (a : tq_La) (S : tq_St) (v : Int64) : ∀ o' r', (o', r') ∈ tq_cids → ¬ (o' = 22 ∧ r' = 0) → tq_gc a (sW S v) o' r' = tq_gc a S o' r' := by
  intro o' r' hm h
  unfold tq_gc sW
  by_cases hr : r' = 0
  · subst hr
    have ho : o' ≠ 22 := fun e => h ⟨e, rfl⟩
    unfold gcx
    by_cases h1 : o' < 19
    · rw [if_pos h1, if_pos h1]
    · rw [if_neg h1, if_neg h1]
      split <;> simp_all
  · exact gcx_ne0 a o' _ _ _ _ _ _ hr
/-- the cell of an array depends on that array alone -/
def tq_arr (o k : Nat) : Prop := ∀ (a : tq_La) (I : Nat → Int32) (B : Nat → Nat → Int32) (f : Nat → Int32) (w : Int64) (g : Nat → Int64) (r : Nat), (o, r) ∈ tq_cids → r ≠ k + 1 → gcx a o I (fun k' => if k' = k then f else B k') w g r = gcx a o I B w g r
theorem tq_gcA (a : tq_La) (S : tq_St) {o k : Nat} (hk : tq_arr o k) (f : Nat → Int32) : ∀ o' r', (o', r') ∈ tq_cids → ¬ (o' = o ∧ r' = k + 1) → tq_gc a (sC S o k f) o' r' = tq_gc a S o' r' := by
  intro o' r' hm h
  unfold tq_gc sC
  by_cases ho : o' = o
  · subst ho
    simp only [if_true]
    exact hk a _ _ f _ _ r' hm (fun hr => h ⟨rfl, hr⟩)
  · simp only [if_neg ho]
theorem tq_gcG (a : tq_La) (S : tq_St) (i : Nat) (v : Int64) : ∀ o' r', (o', r') ∈ tq_cids → ¬ (o' = 22 ∧ r' = 2) → tq_gc a (sG S i v) o' r' = tq_gc a S o' r' := by
  intro o' r' hm h
  unfold tq_gc sG gcx
  by_cases h1 : o' < 19
  · rw [if_pos h1, if_pos h1]
  · rw [if_neg h1, if_neg h1]
    split
    · rfl
    · rfl
    · rfl
    · unfold gcC
      have hr : r' ≠ 2 := fun e => h ⟨rfl, e⟩
      have hr3 : r' < 3 := by
        have : ∀ q ∈ tq_cids, q.1 = 22 → q.2 < 3 := by decide +kernel
        exact this _ hm rfl
      have h01 : r' = 0 ∨ r' = 1 := by omega
      rcases h01 with rfl | rfl <;> rfl
    · rfl
    · rfl
    · rfl
theorem gcx_E (a : tq_La) {o : Nat} (h : o < 19) (I : Nat → Int32) (B : Nat → Nat → Int32) (w : Int64) (g : Nat → Int64) (r : Nat) : gcx a o I B w g r = gcE a o I B r := by unfold gcx; rw [if_pos h]
theorem gcx_S (a : tq_La) {o : Nat} (h : 23 ≤ o ∧ o < 27) (I : Nat → Int32) (B : Nat → Nat → Int32) (w : Int64) (g : Nat → Int64) (r : Nat) : gcx a o I B w g r = gcS a o I B r := by
  unfold gcx
  rw [if_neg (by omega)]
  have h1 : o = 23 ∨ o = 24 ∨ o = 25 ∨ o = 26 := by omega
  rcases h1 with rfl | rfl | rfl | rfl <;> rfl
theorem tq_arrE {o k : Nat} (h : o < 19) : tq_arr o k := by
  intro a I B f w g r hm hr
  rw [gcx_E a h, gcx_E a h]
  unfold gcE
  split
  · rfl
  · rename_i h4
    have hk : ¬ 3 = k := by omega
    simp only [if_neg hk]
  · rename_i j h4
    have hk : ¬ j = k := by omega
    simp only [if_neg hk]
theorem tq_arrS {o : Nat} (h : 23 ≤ o ∧ o < 27) : tq_arr o 0 := by
  intro a I B f w g r hm hr
  rw [gcx_S a h, gcx_S a h]
  unfold gcS
  have hr2 : r < 2 := by
    have h9 : ∀ q ∈ tq_cids, 23 ≤ q.1 → q.1 < 27 → q.2 < 2 := by decide +kernel
    exact h9 _ hm h.1 h.2
  have h01 : r = 0 := by omega
  subst h01
  rfl
/-- for an object whose number is known -/
def tq_arrD (o k : Nat) : Prop := ∀ r ∈ ((tq_cids.filter (fun q => q.1 == o)).map (fun q => q.2)), r ≠ k + 1 → ∀ (a : tq_La) (I : Nat → Int32) (B : Nat → Nat → Int32) (f : Nat → Int32) (w : Int64) (g : Nat → Int64), gcx a o I (fun k' => if k' = k then f else B k') w g r = gcx a o I B w g r
theorem tq_arr_of {o k : Nat} (h : tq_arrD o k) : tq_arr o k := by
  intro a I B f w g r hm hr
  exact h r (List.mem_map.mpr ⟨(o, r), List.mem_filter.mpr ⟨hm, by simp⟩, rfl⟩) hr a I B f w g
theorem tq_all1 {P : Nat → Prop} {x : Nat} {l : List Nat} (h : P x) (t : ∀ r ∈ l, P r) : ∀ r ∈ x :: l, P r := fun r hr => by
  rcases List.mem_cons.mp hr with rfl | h2
  · exact h
  · exact t r h2
theorem tq_arr19_0 : tq_arr 19 0 := tq_arr_of (by
  unfold tq_arrD
  rw [show (tq_cids.filter (fun q => q.1 == 19)).map (fun q => q.2) = [0, 1] by decide +kernel]
  intro r hr hk a I B f w g
  simp only [List.mem_cons, List.not_mem_nil, or_false] at hr
  rcases hr with rfl | rfl <;> first | rfl | exact absurd rfl hk)
theorem tq_arr20_0 : tq_arr 20 0 := tq_arr_of (by
  unfold tq_arrD
  rw [show (tq_cids.filter (fun q => q.1 == 20)).map (fun q => q.2) = [0, 1, 2] by decide +kernel]
  intro r hr hk a I B f w g
  simp only [List.mem_cons, List.not_mem_nil, or_false] at hr
  rcases hr with rfl | rfl | rfl <;> first | rfl | exact absurd rfl hk)
theorem tq_arr20_1 : tq_arr 20 1 := tq_arr_of (by
  unfold tq_arrD
  rw [show (tq_cids.filter (fun q => q.1 == 20)).map (fun q => q.2) = [0, 1, 2] by decide +kernel]
  intro r hr hk a I B f w g
  simp only [List.mem_cons, List.not_mem_nil, or_false] at hr
  rcases hr with rfl | rfl | rfl <;> first | rfl | exact absurd rfl hk)
theorem tq_arr21_1 : tq_arr 21 1 := tq_arr_of (by
  unfold tq_arrD
  rw [show (tq_cids.filter (fun q => q.1 == 21)).map (fun q => q.2) = [0, 1, 2, 3] by decide +kernel]
  intro r hr hk a I B f w g
  simp only [List.mem_cons, List.not_mem_nil, or_false] at hr
  rcases hr with rfl | rfl | rfl | rfl <;> first | rfl | exact absurd rfl hk)
theorem tq_arr21_2 : tq_arr 21 2 := tq_arr_of (by
  unfold tq_arrD
  rw [show (tq_cids.filter (fun q => q.1 == 21)).map (fun q => q.2) = [0, 1, 2, 3] by decide +kernel]
  intro r hr hk a I B f w g
  simp only [List.mem_cons, List.not_mem_nil, or_false] at hr
  rcases hr with rfl | rfl | rfl | rfl <;> first | rfl | exact absurd rfl hk)
theorem tq_arr27_7 : tq_arr 27 7 := tq_arr_of (by
  unfold tq_arrD
  rw [show (tq_cids.filter (fun q => q.1 == 27)).map (fun q => q.2) = [0, 7, 8, 9, 10] by decide +kernel]
  intro r hr hk a I B f w g
  simp only [List.mem_cons, List.not_mem_nil, or_false] at hr
  rcases hr with rfl | rfl | rfl | rfl | rfl <;> first | rfl | exact absurd rfl hk)
theorem tq_arr27_9 : tq_arr 27 9 := tq_arr_of (by
  unfold tq_arrD
  rw [show (tq_cids.filter (fun q => q.1 == 27)).map (fun q => q.2) = [0, 7, 8, 9, 10] by decide +kernel]
  intro r hr hk a I B f w g
  simp only [List.mem_cons, List.not_mem_nil, or_false] at hr
  rcases hr with rfl | rfl | rfl | rfl | rfl <;> first | rfl | exact absurd rfl hk)
theorem tq_arr28_0 : tq_arr 28 0 := tq_arr_of (by
  unfold tq_arrD
  rw [show (tq_cids.filter (fun q => q.1 == 28)).map (fun q => q.2) = [0, 1, 2, 4, 8, 17, 18, 22, 24, 25, 26, 27, 28] by decide +kernel]
  intro r hr hk a I B f w g
  simp only [List.mem_cons, List.not_mem_nil, or_false] at hr
  rcases hr with rfl | rfl | rfl | rfl | rfl | rfl | rfl | rfl | rfl | rfl | rfl | rfl | rfl <;> first | rfl | exact absurd rfl hk)
theorem tq_arr28_1 : tq_arr 28 1 := tq_arr_of (by
  unfold tq_arrD
  rw [show (tq_cids.filter (fun q => q.1 == 28)).map (fun q => q.2) = [0, 1, 2, 4, 8, 17, 18, 22, 24, 25, 26, 27, 28] by decide +kernel]
  intro r hr hk a I B f w g
  simp only [List.mem_cons, List.not_mem_nil, or_false] at hr
  rcases hr with rfl | rfl | rfl | rfl | rfl | rfl | rfl | rfl | rfl | rfl | rfl | rfl | rfl <;> first | rfl | exact absurd rfl hk)
theorem tq_arr28_3 : tq_arr 28 3 := tq_arr_of (by
  unfold tq_arrD
  rw [show (tq_cids.filter (fun q => q.1 == 28)).map (fun q => q.2) = [0, 1, 2, 4, 8, 17, 18, 22, 24, 25, 26, 27, 28] by decide +kernel]
  intro r hr hk a I B f w g
  simp only [List.mem_cons, List.not_mem_nil, or_false] at hr
  rcases hr with rfl | rfl | rfl | rfl | rfl | rfl | rfl | rfl | rfl | rfl | rfl | rfl | rfl <;> first | rfl | exact absurd rfl hk)
theorem tq_arr28_7 : tq_arr 28 7 := tq_arr_of (by
  unfold tq_arrD
  rw [show (tq_cids.filter (fun q => q.1 == 28)).map (fun q => q.2) = [0, 1, 2, 4, 8, 17, 18, 22, 24, 25, 26, 27, 28] by decide +kernel]
  intro r hr hk a I B f w g
  simp only [List.mem_cons, List.not_mem_nil, or_false] at hr
  rcases hr with rfl | rfl | rfl | rfl | rfl | rfl | rfl | rfl | rfl | rfl | rfl | rfl | rfl <;> first | rfl | exact absurd rfl hk)
theorem tq_arr28_16 : tq_arr 28 16 := tq_arr_of (by
  unfold tq_arrD
  rw [show (tq_cids.filter (fun q => q.1 == 28)).map (fun q => q.2) = [0, 1, 2, 4, 8, 17, 18, 22, 24, 25, 26, 27, 28] by decide +kernel]
  intro r hr hk a I B f w g
  simp only [List.mem_cons, List.not_mem_nil, or_false] at hr
  rcases hr with rfl | rfl | rfl | rfl | rfl | rfl | rfl | rfl | rfl | rfl | rfl | rfl | rfl <;> first | rfl | exact absurd rfl hk)
theorem tq_arr28_17 : tq_arr 28 17 := tq_arr_of (by
  unfold tq_arrD
  rw [show (tq_cids.filter (fun q => q.1 == 28)).map (fun q => q.2) = [0, 1, 2, 4, 8, 17, 18, 22, 24, 25, 26, 27, 28] by decide +kernel]
  intro r hr hk a I B f w g
  simp only [List.mem_cons, List.not_mem_nil, or_false] at hr
  rcases hr with rfl | rfl | rfl | rfl | rfl | rfl | rfl | rfl | rfl | rfl | rfl | rfl | rfl <;> first | rfl | exact absurd rfl hk)
theorem tq_arr28_21 : tq_arr 28 21 := tq_arr_of (by
  unfold tq_arrD
  rw [show (tq_cids.filter (fun q => q.1 == 28)).map (fun q => q.2) = [0, 1, 2, 4, 8, 17, 18, 22, 24, 25, 26, 27, 28] by decide +kernel]
  intro r hr hk a I B f w g
  simp only [List.mem_cons, List.not_mem_nil, or_false] at hr
  rcases hr with rfl | rfl | rfl | rfl | rfl | rfl | rfl | rfl | rfl | rfl | rfl | rfl | rfl <;> first | rfl | exact absurd rfl hk)
theorem tq_arr28_23 : tq_arr 28 23 := tq_arr_of (by
  unfold tq_arrD
  rw [show (tq_cids.filter (fun q => q.1 == 28)).map (fun q => q.2) = [0, 1, 2, 4, 8, 17, 18, 22, 24, 25, 26, 27, 28] by decide +kernel]
  intro r hr hk a I B f w g
  simp only [List.mem_cons, List.not_mem_nil, or_false] at hr
  rcases hr with rfl | rfl | rfl | rfl | rfl | rfl | rfl | rfl | rfl | rfl | rfl | rfl | rfl <;> first | rfl | exact absurd rfl hk)
theorem tq_arr28_24 : tq_arr 28 24 := tq_arr_of (by
  unfold tq_arrD
  rw [show (tq_cids.filter (fun q => q.1 == 28)).map (fun q => q.2) = [0, 1, 2, 4, 8, 17, 18, 22, 24, 25, 26, 27, 28] by decide +kernel]
  intro r hr hk a I B f w g
  simp only [List.mem_cons, List.not_mem_nil, or_false] at hr
  rcases hr with rfl | rfl | rfl | rfl | rfl | rfl | rfl | rfl | rfl | rfl | rfl | rfl | rfl <;> first | rfl | exact absurd rfl hk)
theorem tq_arr28_25 : tq_arr 28 25 := tq_arr_of (by
  unfold tq_arrD
  rw [show (tq_cids.filter (fun q => q.1 == 28)).map (fun q => q.2) = [0, 1, 2, 4, 8, 17, 18, 22, 24, 25, 26, 27, 28] by decide +kernel]
  intro r hr hk a I B f w g
  simp only [List.mem_cons, List.not_mem_nil, or_false] at hr
  rcases hr with rfl | rfl | rfl | rfl | rfl | rfl | rfl | rfl | rfl | rfl | rfl | rfl | rfl <;> first | rfl | exact absurd rfl hk)
theorem tq_arr28_26 : tq_arr 28 26 := tq_arr_of (by
  unfold tq_arrD
  rw [show (tq_cids.filter (fun q => q.1 == 28)).map (fun q => q.2) = [0, 1, 2, 4, 8, 17, 18, 22, 24, 25, 26, 27, 28] by decide +kernel]
  intro r hr hk a I B f w g
  simp only [List.mem_cons, List.not_mem_nil, or_false] at hr
  rcases hr with rfl | rfl | rfl | rfl | rfl | rfl | rfl | rfl | rfl | rfl | rfl | rfl | rfl <;> first | rfl | exact absurd rfl hk)
theorem tq_arr28_27 : tq_arr 28 27 := tq_arr_of (by
  unfold tq_arrD
  rw [show (tq_cids.filter (fun q => q.1 == 28)).map (fun q => q.2) = [0, 1, 2, 4, 8, 17, 18, 22, 24, 25, 26, 27, 28] by decide +kernel]
  intro r hr hk a I B f w g
  simp only [List.mem_cons, List.not_mem_nil, or_false] at hr
  rcases hr with rfl | rfl | rfl | rfl | rfl | rfl | rfl | rfl | rfl | rfl | rfl | rfl | rfl <;> first | rfl | exact absurd rfl hk)
end
section
-- THE WORDS: those of the tables that a call hands on
def tq_tbl : List Cond := lw_tbl.filter goodWord
theorem tq_mem {w : Cond} (h : w ∈ lw_tbl) (hg : goodWord w = true) : w ∈ tq_tbl := List.mem_filter.mpr ⟨h, hg⟩
abbrev tq_ws (y : MethodName) (cc : ByteArray) (n : Nat) (ret : Option FieldType) : List Cond := Cond.code y cc n ret :: tq_tbl
abbrev tq_rm (k : Nat) : Room := { frames := k, cells := 0, slots := 0, locals := 100 * k }
-- WHAT NOBODY WRITES: the static array BRIMS, the constant texts
abbrev tq_Zl : Type := Nat × (Nat → Nat) × (Nat → Nat) × Option Nat
def tq_brL : List Int32 := [10, 5, 4, 20]
def tq_txL : List (Nat × String) := [(110, "plain"), (112, "soft"), (114, "sham"), (116, "dry"), (118, "room"), (119, "think"), (120, "plan")]
def tq_byt : List (List Int32) := [[112, 108, 97, 105, 110], [115, 111, 102, 116], [115, 104, 97, 109], [100, 114, 121], [114, 111, 111, 109], [116, 104, 105, 110, 107], [112, 108, 97, 110]]
def tq_len : List Nat := [5, 4, 4, 3, 4, 5, 4]
def tq_Z (z : tq_Zl) (A : Nat → Prop) (U : State) (H : Heap) : Prop :=
  va_Z "TearsQueue" "BRIMS" "[I" (.ref z.1) A U H ∧ va_T .int z.1 4 (fun j => .int (tq_brL.getD j 0)) A U H ∧ va_Nw (.fieldLinkNest RX1 72 "TearsQueue" "BRIMS" "[I" "TearsQueue") U ∧
  vk_S 7 tq_len tq_byt z.2.1 z.2.2.1 A U H ∧ (∀ i, i < 7 → vk_R RX5 (tq_txL.getD i (0, "")).1 (tq_txL.getD i (0, "")).2 (z.2.1 i) U) ∧ va_Z "java/lang/String" "COMPACT_STRINGS" "Z" (.int 1) A U H ∧ va_Z "jdk/internal/util/Preconditions" "SIOOBE_FORMATTER" "Ljava/util/function/BiFunction;" (va_rf z.2.2.2) A U H
theorem tq_Z.to {z : tq_Zl} {A : Nat → Prop} {s U : State} {H : Heap} {locs : List Loc} (h : tq_Z z A s s.heap) (hS : va_S A s.heap H locs) (hU : U.heap = H) (hW : s.WarmedH U.vm) : tq_Z z A U U.heap := by
  obtain ⟨h1, h2, h3, h4, h5, h6, h7⟩ := h
  rw [hU]
  exact ⟨(h1.kept hS.2.1).moved hW.alike, (h2.kept hS.2.1).moved hW.alike, va_Nw.warmF hW h3, (h4.kept hS.2.1).moved hW.alike, fun i hi => vk_R.warm hW (h5 i hi), (h6.kept hS.2.1).moved hW.alike, (h7.kept hS.2.1).moved hW.alike⟩
theorem tq_Z.blind {z : tq_Zl} {A : Nat → Prop} {U : State} (g : JFrame) (mk : MethodId) (a : Array Value) (h : tq_Z z A U U.heap) : tq_Z z A (U.calling g mk a) (U.calling g mk a).heap := by
  obtain ⟨h1, h2, h3, h4, h5, h6, h7⟩ := h
  have hv : U.vm.Alike (U.calling g mk a).vm := Vm.Alike.refl U.vm
  exact ⟨h1.moved hv, h2.moved hv, va_Nw.same rfl rfl h3, h4.moved hv, fun i hi => vk_R.same rfl (h5 i hi), h6.moved hv, h7.moved hv⟩
-- A METHOD'S START AND END
def tq_Pre (a : tq_La) (z : tq_Zl) (A : Nat → Prop) (S : tq_St) (U : State) : Prop := va_P a.2.1 vwCl (tq_W a S) U.heap ∧ va_K a.2.1 vwCl (tq_ty a) U ∧ va_D A (tq_W a S) ∧ tq_Z z A U U.heap
def tq_Post (a : tq_La) (A : Nat → Prop) (S : tq_St) (t : State) : Prop := va_P a.2.1 vwCl (tq_W a S) t.heap ∧ va_D A (tq_W a S)
theorem tq_blind {av : List Value} {a : tq_La} {z : tq_Zl} {A : Nat → Prop} {S : tq_St} : FrameBlind (va_Pc av (tq_Pre a z A S)) := by
  intro v U g mk h
  obtain ⟨h0, h1, h2, h3, h4⟩ := h
  exact ⟨h0, h1, va_K.moved (u := U) (U := U.calling g mk v) (Vm.Alike.refl U.vm) h2, h3, h4.blind g mk v⟩
def tq_Mi (y : MethodName) (cc : ByteArray) (n : Nat) (ret : Option FieldType) (k : Nat) (av : tq_La → tq_Zl → List Value) (S : tq_St) (K : Int32 → tq_St → Prop) : Prop :=
  ∀ (l : Launch) (A : Nat → Prop) (a : tq_La) (z : tq_Zl), Met l y (tq_ws y cc n ret) (tq_rm k) (va_Pc (av a z) (tq_Pre a z A S)) (va_Qi K (tq_Post a A) A) 0 0 A
def tq_Ml (y : MethodName) (cc : ByteArray) (n : Nat) (ret : Option FieldType) (k : Nat) (av : tq_La → tq_Zl → List Value) (S : tq_St) (K : Int64 → tq_St → Prop) : Prop :=
  ∀ (l : Launch) (A : Nat → Prop) (a : tq_La) (z : tq_Zl), Met l y (tq_ws y cc n ret) (tq_rm k) (va_Pc (av a z) (tq_Pre a z A S)) (va_Ql K (tq_Post a A) A) 0 0 A
def tq_Mv (y : MethodName) (cc : ByteArray) (n : Nat) (ret : Option FieldType) (k : Nat) (av : tq_La → tq_Zl → List Value) (S : tq_St) (K : tq_St → Prop) : Prop :=
  ∀ (l : Launch) (A : Nat → Prop) (a : tq_La) (z : tq_Zl), Met l y (tq_ws y cc n ret) (tq_rm k) (va_Pc (av a z) (tq_Pre a z A S)) (va_Qv K (tq_Post a A) A) 0 0 A
/-- the answer is the i-th constant text -/
def tq_Mr (y : MethodName) (cc : ByteArray) (n : Nat) (ret : Option FieldType) (k : Nat) (av : tq_La → tq_Zl → List Value) (S : tq_St) (K : Nat → tq_St → Prop) : Prop :=
  ∀ (l : Launch) (A : Nat → Prop) (a : tq_La) (z : tq_Zl), Met l y (tq_ws y cc n ret) (tq_rm k) (va_Pc (av a z) (tq_Pre a z A S)) (va_Qr (fun u : Nat × tq_St => K u.1 u.2) (fun u q t => q = z.2.1 u.1 ∧ tq_Post a A u.2 t) A) 0 0 A
-- THE MACHINE AT A METHOD'S BODY
abbrev tq_Cx : Type := Program × Launch × Env × Room × State × MethodId × Array Value × List Frame × Method × Code × (Nat → Prop) × tq_La × tq_Zl × (Nat × Nat) × (State → Prop)
def tq_la (X : tq_Cx) : tq_La := X.2.2.2.2.2.2.2.2.2.2.2.1
def tq_zl (X : tq_Cx) : tq_Zl := X.2.2.2.2.2.2.2.2.2.2.2.2.1
/-- what holds at a method's body: its code, its class, its room; the last pair: the cells and slots made so far -/
def tq_C (X : tq_Cx) (cc : ByteArray) (nL : Nat) (own : String) (k : Nat) : Prop := match X with
  | (p, _, _, R, s, m, args, _, meth, c, A, a, z, Q) => p.tables.exec = Jvm.exec ∧ c.code = cc ∧ c.maxLocals = nL ∧ s.vm.findClass own = some m.cls ∧ (∀ w ∈ tq_tbl, w.before args s = true) ∧ va_K a.2.1 vwCl (tq_ty a) s ∧ tq_Z z A s s.heap ∧ (k ≤ R.frames ∧ 100 * k ≤ R.locals ∧ Q.1.1 ≤ R.cells ∧ Q.1.2 ≤ R.slots) ∧ meth.locks = false
/-- from here the machine comes to its end -/
def Go (X : tq_Cx) (nL : Nat) (S : tq_St) (pc : Nat) (lv : List (Nat × Value)) (st : List Value) : Prop := match X with
  | (p, l, e, R, s, m, args, below, meth, c, A, a, _, Q) => ∀ (H : Heap) (locs : List Loc) (ls : Array Slot), va_P a.2.1 vwCl (tq_W a S) H → va_D A (tq_W a S) → va_S A s.heap H locs → lv_has ls nL lv → W p l e R s m args below meth c H locs Q.1.1 Q.1.2 Q.2 (F0 m pc ls st)
-- THE ENDS
def tq_Ri (X : tq_Cx) (cc : ByteArray) (nL : Nat) (K : Int32 → tq_St → Prop) : Prop := ∀ (r : Int32) (S : tq_St) (pc : Nat) (lv : List (Nat × Value)), decode cc pc = .ok (.ireturn, 1) → K r S → Go X nL S pc lv [.int r]
def tq_Rl (X : tq_Cx) (cc : ByteArray) (nL : Nat) (K : Int64 → tq_St → Prop) : Prop := ∀ (r : Int64) (S : tq_St) (pc : Nat) (lv : List (Nat × Value)), decode cc pc = .ok (.lreturn, 1) → K r S → Go X nL S pc lv [.long r]
def tq_Rv (X : tq_Cx) (cc : ByteArray) (nL : Nat) (K : tq_St → Prop) : Prop := ∀ (S : tq_St) (pc : Nat) (lv : List (Nat × Value)), decode cc pc = .ok (.return_, 1) → K S → Go X nL S pc lv []
def tq_Rz (X : tq_Cx) (cc : ByteArray) (nL : Nat) (K : Int32 → tq_St → Prop) : Prop := ∀ (r : Int32) (S : tq_St) (pc : Nat) (lv : List (Nat × Value)), decode cc pc = .ok (.ireturn, 1) → (r = 0 ∨ r = 1) → K r S → Go X nL S pc lv [.int r]
def tq_Rr (X : tq_Cx) (cc : ByteArray) (nL : Nat) (K : Nat → tq_St → Prop) : Prop := ∀ (i : Nat) (S : tq_St) (pc : Nat) (lv : List (Nat × Value)), decode cc pc = .ok (.areturn, 1) → K i S → Go X nL S pc lv [.ref ((tq_zl X).2.1 i)]
-- A CONTRACT OUT OF A WALK
section MK
variable {y : MethodName} {cc : ByteArray} {n k : Nat} {av : tq_La → tq_Zl → List Value} {S : tq_St}
theorem tq_mk {ret : Option FieldType} (hy : plainName y.cls = true) (hlen : ∀ a z, (lg_sl (av a z)).length ≤ n) {Qc : tq_La → tq_Zl → (Nat → Prop) → Array Value → State → Outcome → State → Prop}
    (h : ∀ X : tq_Cx, tq_C X cc n y.cls k → (∃ (s : State) (args : Array Value) (below : List Frame), X.2.2.2.2.1 = s ∧ X.2.2.2.2.2.2.1 = args ∧ X.2.2.2.2.2.2.2.2.1.sig.returnType = ret ∧ X.2.2.2.2.2.2.2.2.2.2.2.2.2 = ((0, 0), MQ below (Qc (tq_la X) (tq_zl X) X.2.2.2.2.2.2.2.2.2.2.1) args s 0 0 X.2.2.2.2.2.2.2.2.2.2.1) ∧ X.2.2.2.2.2.2.2.1 = below) → Go X n S 0 (lv_args 0 (av (tq_la X) (tq_zl X))) []) :
    ∀ (l : Launch) (A : Nat → Prop) (a : tq_La) (z : tq_Zl), Met l y (tq_ws y cc n ret) (tq_rm k) (va_Pc (av a z) (tq_Pre a z A S)) (Qc a z A) 0 0 A := by
  intro l A a z
  refine Met.ofW (cc := cc) (maxL := n) (ret := ret) hy rfl ?_
  intro p e s m args below meth c s₁ B hml hv
  obtain ⟨rfl, hP, hK, hD, hZ⟩ := hv
  have hts := atoms_spec (ws := tq_ws y cc n ret) B.pre
  have hown : s.vm.findClass y.cls = some m.cls := findClass_of_methodNamed B.named
  have hg := h (p, l, e, (headSpec (tq_ws y cc n ret) (tq_rm k)).room, s, m, (av a z).toArray, below, meth, c, A, a, z, (0, 0), MQ below (Qc a z A) (av a z).toArray s 0 0 A) ⟨B.exec, B.bytes, hml, hown, fun w hw => hts w (List.mem_cons_of_mem _ hw), hK, hZ, ⟨Nat.le_refl _, Nat.le_refl _, Nat.zero_le _, Nat.zero_le _⟩, B.notSynchronized⟩ ⟨s, _, below, rfl, rfl, B.returns, rfl, rfl⟩
  have hl := lv_entry (av a z) (n := n) (hlen a z)
  rw [lg_entry_eq]
  exact hg s.heap [] _ hP hD va_S.rf hl
end MK
end
section
theorem go_iconst {X : tq_Cx} {cc : ByteArray} {nL : Nat} {own : String} {kr : Nat} {S : tq_St} {pc : Nat} {lv : List (Nat × Value)} {st : List Value} {n : Int} {v : Int32} (C : tq_C X cc nL own kr)  (hd : decode cc pc = .ok (.iconst n, 1)) (hv : Int32.ofInt n = v) (g : Go X nL S (pc + 1) lv (.int v :: st)) : Go X nL S pc lv (st) := by
  obtain ⟨p, l, e, R, s, m, args, below, meth, c, A, a, z, Q⟩ := X
  exact fun H locs ls hP hD hS hl => lv_iconst C.1 C.2.1 hd hv (g H locs ls hP hD hS hl)
theorem go_bipush {X : tq_Cx} {cc : ByteArray} {nL : Nat} {own : String} {kr : Nat} {S : tq_St} {pc : Nat} {lv : List (Nat × Value)} {st : List Value} {n : Int} {v : Int32} (C : tq_C X cc nL own kr)  (hd : decode cc pc = .ok (.bipush n, 2)) (hv : (Int8.ofInt n).toInt32 = v) (g : Go X nL S (pc + 2) lv (.int v :: st)) : Go X nL S pc lv (st) := by
  obtain ⟨p, l, e, R, s, m, args, below, meth, c, A, a, z, Q⟩ := X
  exact fun H locs ls hP hD hS hl => lv_bipush C.1 C.2.1 hd hv (g H locs ls hP hD hS hl)
theorem go_sipush {X : tq_Cx} {cc : ByteArray} {nL : Nat} {own : String} {kr : Nat} {S : tq_St} {pc : Nat} {lv : List (Nat × Value)} {st : List Value} {n : Int} {v : Int32} (C : tq_C X cc nL own kr)  (hd : decode cc pc = .ok (.sipush n, 3)) (hv : (Int16.ofInt n).toInt32 = v) (g : Go X nL S (pc + 3) lv (.int v :: st)) : Go X nL S pc lv (st) := by
  obtain ⟨p, l, e, R, s, m, args, below, meth, c, A, a, z, Q⟩ := X
  exact fun H locs ls hP hD hS hl => lv_sipush C.1 C.2.1 hd hv (g H locs ls hP hD hS hl)
theorem go_lconst {X : tq_Cx} {cc : ByteArray} {nL : Nat} {own : String} {kr : Nat} {S : tq_St} {pc : Nat} {lv : List (Nat × Value)} {st : List Value} {n : Fin 2} {v : Int64} (C : tq_C X cc nL own kr)  (hd : decode cc pc = .ok (.lconst n, 1)) (hv : Int64.ofNat n = v) (g : Go X nL S (pc + 1) lv (.long v :: st)) : Go X nL S pc lv (st) := by
  obtain ⟨p, l, e, R, s, m, args, below, meth, c, A, a, z, Q⟩ := X
  exact fun H locs ls hP hD hS hl => lv_lconst C.1 C.2.1 hd hv (g H locs ls hP hD hS hl)
theorem go_iadd {X : tq_Cx} {cc : ByteArray} {nL : Nat} {own : String} {kr : Nat} {S : tq_St} {pc : Nat} {lv : List (Nat × Value)} {st : List Value} {x y : Int32}(C : tq_C X cc nL own kr)  (hd : decode cc pc = .ok (.iadd, 1))  (g : Go X nL S (pc + 1) lv (.int (x + y) :: st)) : Go X nL S pc lv (.int y :: .int x :: st) := by
  obtain ⟨p, l, e, R, s, m, args, below, meth, c, A, a, z, Q⟩ := X
  exact fun H locs ls hP hD hS hl => lv_iadd C.1 C.2.1 hd (g H locs ls hP hD hS hl)
theorem go_isub {X : tq_Cx} {cc : ByteArray} {nL : Nat} {own : String} {kr : Nat} {S : tq_St} {pc : Nat} {lv : List (Nat × Value)} {st : List Value} {x y : Int32}(C : tq_C X cc nL own kr)  (hd : decode cc pc = .ok (.isub, 1))  (g : Go X nL S (pc + 1) lv (.int (x - y) :: st)) : Go X nL S pc lv (.int y :: .int x :: st) := by
  obtain ⟨p, l, e, R, s, m, args, below, meth, c, A, a, z, Q⟩ := X
  exact fun H locs ls hP hD hS hl => lv_isub C.1 C.2.1 hd (g H locs ls hP hD hS hl)
theorem go_imul {X : tq_Cx} {cc : ByteArray} {nL : Nat} {own : String} {kr : Nat} {S : tq_St} {pc : Nat} {lv : List (Nat × Value)} {st : List Value} {x y : Int32}(C : tq_C X cc nL own kr)  (hd : decode cc pc = .ok (.imul, 1))  (g : Go X nL S (pc + 1) lv (.int (x * y) :: st)) : Go X nL S pc lv (.int y :: .int x :: st) := by
  obtain ⟨p, l, e, R, s, m, args, below, meth, c, A, a, z, Q⟩ := X
  exact fun H locs ls hP hD hS hl => lv_imul C.1 C.2.1 hd (g H locs ls hP hD hS hl)
theorem go_iand {X : tq_Cx} {cc : ByteArray} {nL : Nat} {own : String} {kr : Nat} {S : tq_St} {pc : Nat} {lv : List (Nat × Value)} {st : List Value} {x y : Int32}(C : tq_C X cc nL own kr)  (hd : decode cc pc = .ok (.iand, 1))  (g : Go X nL S (pc + 1) lv (.int (x &&& y) :: st)) : Go X nL S pc lv (.int y :: .int x :: st) := by
  obtain ⟨p, l, e, R, s, m, args, below, meth, c, A, a, z, Q⟩ := X
  exact fun H locs ls hP hD hS hl => lv_iand C.1 C.2.1 hd (g H locs ls hP hD hS hl)
theorem go_ior {X : tq_Cx} {cc : ByteArray} {nL : Nat} {own : String} {kr : Nat} {S : tq_St} {pc : Nat} {lv : List (Nat × Value)} {st : List Value} {x y : Int32}(C : tq_C X cc nL own kr)  (hd : decode cc pc = .ok (.ior, 1))  (g : Go X nL S (pc + 1) lv (.int (x ||| y) :: st)) : Go X nL S pc lv (.int y :: .int x :: st) := by
  obtain ⟨p, l, e, R, s, m, args, below, meth, c, A, a, z, Q⟩ := X
  exact fun H locs ls hP hD hS hl => lv_ior C.1 C.2.1 hd (g H locs ls hP hD hS hl)
theorem go_ixor {X : tq_Cx} {cc : ByteArray} {nL : Nat} {own : String} {kr : Nat} {S : tq_St} {pc : Nat} {lv : List (Nat × Value)} {st : List Value} {x y : Int32}(C : tq_C X cc nL own kr)  (hd : decode cc pc = .ok (.ixor, 1))  (g : Go X nL S (pc + 1) lv (.int (x ^^^ y) :: st)) : Go X nL S pc lv (.int y :: .int x :: st) := by
  obtain ⟨p, l, e, R, s, m, args, below, meth, c, A, a, z, Q⟩ := X
  exact fun H locs ls hP hD hS hl => lv_ixor C.1 C.2.1 hd (g H locs ls hP hD hS hl)
theorem go_ishl {X : tq_Cx} {cc : ByteArray} {nL : Nat} {own : String} {kr : Nat} {S : tq_St} {pc : Nat} {lv : List (Nat × Value)} {st : List Value} {x y : Int32}(C : tq_C X cc nL own kr)  (hd : decode cc pc = .ok (.ishl, 1))  (g : Go X nL S (pc + 1) lv (.int (x <<< (y &&& 31)) :: st)) : Go X nL S pc lv (.int y :: .int x :: st) := by
  obtain ⟨p, l, e, R, s, m, args, below, meth, c, A, a, z, Q⟩ := X
  exact fun H locs ls hP hD hS hl => lv_ishl C.1 C.2.1 hd (g H locs ls hP hD hS hl)
theorem go_ishr {X : tq_Cx} {cc : ByteArray} {nL : Nat} {own : String} {kr : Nat} {S : tq_St} {pc : Nat} {lv : List (Nat × Value)} {st : List Value} {x y : Int32}(C : tq_C X cc nL own kr)  (hd : decode cc pc = .ok (.ishr, 1))  (g : Go X nL S (pc + 1) lv (.int (x >>> (y &&& 31)) :: st)) : Go X nL S pc lv (.int y :: .int x :: st) := by
  obtain ⟨p, l, e, R, s, m, args, below, meth, c, A, a, z, Q⟩ := X
  exact fun H locs ls hP hD hS hl => lv_ishr C.1 C.2.1 hd (g H locs ls hP hD hS hl)
theorem go_iushr {X : tq_Cx} {cc : ByteArray} {nL : Nat} {own : String} {kr : Nat} {S : tq_St} {pc : Nat} {lv : List (Nat × Value)} {st : List Value} {x y : Int32}(C : tq_C X cc nL own kr)  (hd : decode cc pc = .ok (.iushr, 1))  (g : Go X nL S (pc + 1) lv (.int ((x.toUInt32 >>> (y.toUInt32 &&& Int32.toUInt32 31)).toInt32) :: st)) : Go X nL S pc lv (.int y :: .int x :: st) := by
  obtain ⟨p, l, e, R, s, m, args, below, meth, c, A, a, z, Q⟩ := X
  exact fun H locs ls hP hD hS hl => lv_iushr C.1 C.2.1 hd rfl (g H locs ls hP hD hS hl)
theorem go_idiv {X : tq_Cx} {cc : ByteArray} {nL : Nat} {own : String} {kr : Nat} {S : tq_St} {pc : Nat} {lv : List (Nat × Value)} {st : List Value} {x y : Int32} (C : tq_C X cc nL own kr)  (hd : decode cc pc = .ok (.idiv, 1)) (hy : ¬ y = 0) (g : Go X nL S (pc + 1) lv (.int (x / y) :: st)) : Go X nL S pc lv (.int y :: .int x :: st) := by
  obtain ⟨p, l, e, R, s, m, args, below, meth, c, A, a, z, Q⟩ := X
  exact fun H locs ls hP hD hS hl => lv_idiv C.1 C.2.1 hd hy (g H locs ls hP hD hS hl)
theorem go_irem {X : tq_Cx} {cc : ByteArray} {nL : Nat} {own : String} {kr : Nat} {S : tq_St} {pc : Nat} {lv : List (Nat × Value)} {st : List Value} {x y : Int32} (C : tq_C X cc nL own kr)  (hd : decode cc pc = .ok (.irem, 1)) (hy : ¬ y = 0) (g : Go X nL S (pc + 1) lv (.int (x - x / y * y) :: st)) : Go X nL S pc lv (.int y :: .int x :: st) := by
  obtain ⟨p, l, e, R, s, m, args, below, meth, c, A, a, z, Q⟩ := X
  exact fun H locs ls hP hD hS hl => lv_irem C.1 C.2.1 hd hy (g H locs ls hP hD hS hl)
theorem go_ladd {X : tq_Cx} {cc : ByteArray} {nL : Nat} {own : String} {kr : Nat} {S : tq_St} {pc : Nat} {lv : List (Nat × Value)} {st : List Value} {x y : Int64}(C : tq_C X cc nL own kr)  (hd : decode cc pc = .ok (.ladd, 1))  (g : Go X nL S (pc + 1) lv (.long (x + y) :: st)) : Go X nL S pc lv (.long y :: .long x :: st) := by
  obtain ⟨p, l, e, R, s, m, args, below, meth, c, A, a, z, Q⟩ := X
  exact fun H locs ls hP hD hS hl => lv_ladd C.1 C.2.1 hd (g H locs ls hP hD hS hl)
theorem go_lmul {X : tq_Cx} {cc : ByteArray} {nL : Nat} {own : String} {kr : Nat} {S : tq_St} {pc : Nat} {lv : List (Nat × Value)} {st : List Value} {x y : Int64}(C : tq_C X cc nL own kr)  (hd : decode cc pc = .ok (.lmul, 1))  (g : Go X nL S (pc + 1) lv (.long (x * y) :: st)) : Go X nL S pc lv (.long y :: .long x :: st) := by
  obtain ⟨p, l, e, R, s, m, args, below, meth, c, A, a, z, Q⟩ := X
  exact fun H locs ls hP hD hS hl => lv_lmul C.1 C.2.1 hd (g H locs ls hP hD hS hl)
theorem go_ldiv {X : tq_Cx} {cc : ByteArray} {nL : Nat} {own : String} {kr : Nat} {S : tq_St} {pc : Nat} {lv : List (Nat × Value)} {st : List Value} {x y : Int64} (C : tq_C X cc nL own kr)  (hd : decode cc pc = .ok (.ldiv, 1)) (hy : ¬ y = 0) (g : Go X nL S (pc + 1) lv (.long (x / y) :: st)) : Go X nL S pc lv (.long y :: .long x :: st) := by
  obtain ⟨p, l, e, R, s, m, args, below, meth, c, A, a, z, Q⟩ := X
  exact fun H locs ls hP hD hS hl => lv_ldiv C.1 C.2.1 hd hy (g H locs ls hP hD hS hl)
theorem go_lrem {X : tq_Cx} {cc : ByteArray} {nL : Nat} {own : String} {kr : Nat} {S : tq_St} {pc : Nat} {lv : List (Nat × Value)} {st : List Value} {x y : Int64} (C : tq_C X cc nL own kr)  (hd : decode cc pc = .ok (.lrem, 1)) (hy : ¬ y = 0) (g : Go X nL S (pc + 1) lv (.long (x - x / y * y) :: st)) : Go X nL S pc lv (.long y :: .long x :: st) := by
  obtain ⟨p, l, e, R, s, m, args, below, meth, c, A, a, z, Q⟩ := X
  exact fun H locs ls hP hD hS hl => lv_lrem C.1 C.2.1 hd hy (g H locs ls hP hD hS hl)
theorem go_i2l {X : tq_Cx} {cc : ByteArray} {nL : Nat} {own : String} {kr : Nat} {S : tq_St} {pc : Nat} {lv : List (Nat × Value)} {st : List Value} {x : Int32}(C : tq_C X cc nL own kr)  (hd : decode cc pc = .ok (.i2l, 1))  (g : Go X nL S (pc + 1) lv (.long x.toInt64 :: st)) : Go X nL S pc lv (.int x :: st) := by
  obtain ⟨p, l, e, R, s, m, args, below, meth, c, A, a, z, Q⟩ := X
  exact fun H locs ls hP hD hS hl => lv_i2l C.1 C.2.1 hd rfl (g H locs ls hP hD hS hl)
theorem go_i2b {X : tq_Cx} {cc : ByteArray} {nL : Nat} {own : String} {kr : Nat} {S : tq_St} {pc : Nat} {lv : List (Nat × Value)} {st : List Value} {x : Int32}(C : tq_C X cc nL own kr)  (hd : decode cc pc = .ok (.i2b, 1))  (g : Go X nL S (pc + 1) lv (.int x.toInt8.toInt32 :: st)) : Go X nL S pc lv (.int x :: st) := by
  obtain ⟨p, l, e, R, s, m, args, below, meth, c, A, a, z, Q⟩ := X
  exact fun H locs ls hP hD hS hl => lv_i2b C.1 C.2.1 hd rfl (g H locs ls hP hD hS hl)
theorem go_i2c {X : tq_Cx} {cc : ByteArray} {nL : Nat} {own : String} {kr : Nat} {S : tq_St} {pc : Nat} {lv : List (Nat × Value)} {st : List Value} {x : Int32}(C : tq_C X cc nL own kr)  (hd : decode cc pc = .ok (.i2c, 1))  (g : Go X nL S (pc + 1) lv (.int (x.toUInt32 % 65536).toInt32 :: st)) : Go X nL S pc lv (.int x :: st) := by
  obtain ⟨p, l, e, R, s, m, args, below, meth, c, A, a, z, Q⟩ := X
  exact fun H locs ls hP hD hS hl => lv_i2c C.1 C.2.1 hd rfl (g H locs ls hP hD hS hl)
theorem go_i2s {X : tq_Cx} {cc : ByteArray} {nL : Nat} {own : String} {kr : Nat} {S : tq_St} {pc : Nat} {lv : List (Nat × Value)} {st : List Value} {x : Int32}(C : tq_C X cc nL own kr)  (hd : decode cc pc = .ok (.i2s, 1))  (g : Go X nL S (pc + 1) lv (.int x.toInt16.toInt32 :: st)) : Go X nL S pc lv (.int x :: st) := by
  obtain ⟨p, l, e, R, s, m, args, below, meth, c, A, a, z, Q⟩ := X
  exact fun H locs ls hP hD hS hl => lv_i2s C.1 C.2.1 hd rfl (g H locs ls hP hD hS hl)
theorem go_lcmp {X : tq_Cx} {cc : ByteArray} {nL : Nat} {own : String} {kr : Nat} {S : tq_St} {pc : Nat} {lv : List (Nat × Value)} {st : List Value} {x y : Int64}(C : tq_C X cc nL own kr)  (hd : decode cc pc = .ok (.lcmp, 1))  (g : Go X nL S (pc + 1) lv (.int (lg_cmp x y) :: st)) : Go X nL S pc lv (.long y :: .long x :: st) := by
  obtain ⟨p, l, e, R, s, m, args, below, meth, c, A, a, z, Q⟩ := X
  exact fun H locs ls hP hD hS hl => W.lcmp C.1 C.2.1 hd (g H locs ls hP hD hS hl)
theorem go_dup {X : tq_Cx} {cc : ByteArray} {nL : Nat} {own : String} {kr : Nat} {S : tq_St} {pc : Nat} {lv : List (Nat × Value)} {st : List Value} {v : Value} (C : tq_C X cc nL own kr)  (hd : decode cc pc = .ok (.dup, 1)) (hv : v.category = 1) (g : Go X nL S (pc + 1) lv (v :: v :: st)) : Go X nL S pc lv (v :: st) := by
  obtain ⟨p, l, e, R, s, m, args, below, meth, c, A, a, z, Q⟩ := X
  exact fun H locs ls hP hD hS hl => lv_dup C.1 C.2.1 hd hv (g H locs ls hP hD hS hl)
theorem go_pop {X : tq_Cx} {cc : ByteArray} {nL : Nat} {own : String} {kr : Nat} {S : tq_St} {pc : Nat} {lv : List (Nat × Value)} {st : List Value} {v : Value} (C : tq_C X cc nL own kr)  (hd : decode cc pc = .ok (.pop, 1)) (hv : v.category = 1) (g : Go X nL S (pc + 1) lv (st)) : Go X nL S pc lv (v :: st) := by
  obtain ⟨p, l, e, R, s, m, args, below, meth, c, A, a, z, Q⟩ := X
  exact fun H locs ls hP hD hS hl => lv_pop C.1 C.2.1 hd hv (g H locs ls hP hD hS hl)
theorem go_pop2 {X : tq_Cx} {cc : ByteArray} {nL : Nat} {own : String} {kr : Nat} {S : tq_St} {pc : Nat} {lv : List (Nat × Value)} {st : List Value} {v : Value} (C : tq_C X cc nL own kr)  (hd : decode cc pc = .ok (.pop2, 1)) (hv : v.category = 2) (g : Go X nL S (pc + 1) lv (st)) : Go X nL S pc lv (v :: st) := by
  obtain ⟨p, l, e, R, s, m, args, below, meth, c, A, a, z, Q⟩ := X
  exact fun H locs ls hP hD hS hl => lv_pop2_2 C.1 C.2.1 hd hv (g H locs ls hP hD hS hl)
theorem go_dup2 {X : tq_Cx} {cc : ByteArray} {nL : Nat} {own : String} {kr : Nat} {S : tq_St} {pc : Nat} {lv : List (Nat × Value)} {st : List Value} {v u : Value} (C : tq_C X cc nL own kr)  (hd : decode cc pc = .ok (.dup2, 1)) (hv : v.category = 1) (hu : u.category = 1) (g : Go X nL S (pc + 1) lv (v :: u :: v :: u :: st)) : Go X nL S pc lv (v :: u :: st) := by
  obtain ⟨p, l, e, R, s, m, args, below, meth, c, A, a, z, Q⟩ := X
  exact fun H locs ls hP hD hS hl => lv_dup2_11 C.1 C.2.1 hd hv hu (g H locs ls hP hD hS hl)
theorem go_iload_n {X : tq_Cx} {cc : ByteArray} {nL : Nat} {own : String} {kr : Nat} {S : tq_St} {pc : Nat} {lv : List (Nat × Value)} {st : List Value} {q : Fin 4} {i : Nat} {x : Int32} (C : tq_C X cc nL own kr)  (hd : decode cc pc = .ok (.iload_n q, 1)) (j : Nat) (hi : (q : Nat) = i) (hj : lv[j]? = some (i, .int x)) (g : Go X nL S (pc + 1) lv (.int x :: st)) : Go X nL S pc lv (st) := by
  obtain ⟨p, l, e, R, s, m, args, below, meth, c, A, a, z, Q⟩ := X
  exact fun H locs ls hP hD hS hl => lv_iload_n C.1 C.2.1 hd hi (lv_at hl j hj) (g H locs ls hP hD hS hl)
theorem go_iload {X : tq_Cx} {cc : ByteArray} {nL : Nat} {own : String} {kr : Nat} {S : tq_St} {pc : Nat} {lv : List (Nat × Value)} {st : List Value} {i : Nat} {x : Int32} (C : tq_C X cc nL own kr)  (hd : decode cc pc = .ok (.iload i, 2)) (j : Nat) (hj : lv[j]? = some (i, .int x)) (g : Go X nL S (pc + 2) lv (.int x :: st)) : Go X nL S pc lv (st) := by
  obtain ⟨p, l, e, R, s, m, args, below, meth, c, A, a, z, Q⟩ := X
  exact fun H locs ls hP hD hS hl => lv_iload C.1 C.2.1 hd (lv_at hl j hj) (g H locs ls hP hD hS hl)
theorem go_lload_n {X : tq_Cx} {cc : ByteArray} {nL : Nat} {own : String} {kr : Nat} {S : tq_St} {pc : Nat} {lv : List (Nat × Value)} {st : List Value} {q : Fin 4} {i : Nat} {x : Int64} (C : tq_C X cc nL own kr)  (hd : decode cc pc = .ok (.lload_n q, 1)) (j : Nat) (hi : (q : Nat) = i) (hj : lv[j]? = some (i, .long x)) (g : Go X nL S (pc + 1) lv (.long x :: st)) : Go X nL S pc lv (st) := by
  obtain ⟨p, l, e, R, s, m, args, below, meth, c, A, a, z, Q⟩ := X
  exact fun H locs ls hP hD hS hl => lv_lload_n C.1 C.2.1 hd hi (lv_at hl j hj) (g H locs ls hP hD hS hl)
theorem go_lload {X : tq_Cx} {cc : ByteArray} {nL : Nat} {own : String} {kr : Nat} {S : tq_St} {pc : Nat} {lv : List (Nat × Value)} {st : List Value} {i : Nat} {x : Int64} (C : tq_C X cc nL own kr)  (hd : decode cc pc = .ok (.lload i, 2)) (j : Nat) (hj : lv[j]? = some (i, .long x)) (g : Go X nL S (pc + 2) lv (.long x :: st)) : Go X nL S pc lv (st) := by
  obtain ⟨p, l, e, R, s, m, args, below, meth, c, A, a, z, Q⟩ := X
  exact fun H locs ls hP hD hS hl => lv_lload C.1 C.2.1 hd (lv_at hl j hj) (g H locs ls hP hD hS hl)
theorem go_aload_n {X : tq_Cx} {cc : ByteArray} {nL : Nat} {own : String} {kr : Nat} {S : tq_St} {pc : Nat} {lv : List (Nat × Value)} {st : List Value} {q : Fin 4} {i : Nat} {x : Nat} (C : tq_C X cc nL own kr)  (hd : decode cc pc = .ok (.aload_n q, 1)) (j : Nat) (hi : (q : Nat) = i) (hj : lv[j]? = some (i, .ref x)) (g : Go X nL S (pc + 1) lv (.ref x :: st)) : Go X nL S pc lv (st) := by
  obtain ⟨p, l, e, R, s, m, args, below, meth, c, A, a, z, Q⟩ := X
  exact fun H locs ls hP hD hS hl => lv_aload_n C.1 C.2.1 hd hi (lv_at hl j hj) (g H locs ls hP hD hS hl)
theorem go_aload {X : tq_Cx} {cc : ByteArray} {nL : Nat} {own : String} {kr : Nat} {S : tq_St} {pc : Nat} {lv : List (Nat × Value)} {st : List Value} {i : Nat} {x : Nat} (C : tq_C X cc nL own kr)  (hd : decode cc pc = .ok (.aload i, 2)) (j : Nat) (hj : lv[j]? = some (i, .ref x)) (g : Go X nL S (pc + 2) lv (.ref x :: st)) : Go X nL S pc lv (st) := by
  obtain ⟨p, l, e, R, s, m, args, below, meth, c, A, a, z, Q⟩ := X
  exact fun H locs ls hP hD hS hl => lv_aload C.1 C.2.1 hd (lv_at hl j hj) (g H locs ls hP hD hS hl)
theorem go_istore_n {X : tq_Cx} {cc : ByteArray} {nL : Nat} {own : String} {kr : Nat} {S : tq_St} {pc : Nat} {lv : List (Nat × Value)} {st : List Value} (C : tq_C X cc nL own kr) {q : Fin 4} {i : Nat} {x : Int32} (hd : decode cc pc = .ok (.istore_n q, 1)) (lv' : List (Nat × Value)) (hi : (q : Nat) = i) (hn : i < nL) (hl' : (i, Value.int x) :: lv.filter (fun q => !(q.1 == i) && !(q.1 + 1 == i && q.2.category == 2)) = lv') (g : Go X nL S (pc + 1) lv' st) : Go X nL S pc lv (.int x :: st) := by
  obtain ⟨p, l, e, R, s, m, args, below, meth, c, A, a, z, Q⟩ := X
  exact fun H locs ls hP hD hS hl => lv_istore_n C.1 C.2.1 hd hi hl hn hl' (fun ls' hl2 => g H locs ls' hP hD hS hl2)
theorem go_istore {X : tq_Cx} {cc : ByteArray} {nL : Nat} {own : String} {kr : Nat} {S : tq_St} {pc : Nat} {lv : List (Nat × Value)} {st : List Value} (C : tq_C X cc nL own kr) {i : Nat} {x : Int32} (hd : decode cc pc = .ok (.istore i, 2)) (lv' : List (Nat × Value)) (hn : i < nL) (hl' : (i, Value.int x) :: lv.filter (fun q => !(q.1 == i) && !(q.1 + 1 == i && q.2.category == 2)) = lv') (g : Go X nL S (pc + 2) lv' st) : Go X nL S pc lv (.int x :: st) := by
  obtain ⟨p, l, e, R, s, m, args, below, meth, c, A, a, z, Q⟩ := X
  exact fun H locs ls hP hD hS hl => lv_istore C.1 C.2.1 hd hl hn hl' (fun ls' hl2 => g H locs ls' hP hD hS hl2)
theorem go_lstore_n {X : tq_Cx} {cc : ByteArray} {nL : Nat} {own : String} {kr : Nat} {S : tq_St} {pc : Nat} {lv : List (Nat × Value)} {st : List Value} (C : tq_C X cc nL own kr) {q : Fin 4} {i : Nat} {x : Int64} (hd : decode cc pc = .ok (.lstore_n q, 1)) (lv' : List (Nat × Value)) (hi : (q : Nat) = i) (hn : i + 1 < nL) (hl' : (i, Value.long x) :: lv.filter (fun q => !(q.1 == i) && (!(q.1 == i + 1) && !(q.1 + 1 == i && q.2.category == 2))) = lv') (g : Go X nL S (pc + 1) lv' st) : Go X nL S pc lv (.long x :: st) := by
  obtain ⟨p, l, e, R, s, m, args, below, meth, c, A, a, z, Q⟩ := X
  exact fun H locs ls hP hD hS hl => lv_lstore_n C.1 C.2.1 hd hi hl hn hl' (fun ls' hl2 => g H locs ls' hP hD hS hl2)
theorem go_lstore {X : tq_Cx} {cc : ByteArray} {nL : Nat} {own : String} {kr : Nat} {S : tq_St} {pc : Nat} {lv : List (Nat × Value)} {st : List Value} (C : tq_C X cc nL own kr) {i : Nat} {x : Int64} (hd : decode cc pc = .ok (.lstore i, 2)) (lv' : List (Nat × Value)) (hn : i + 1 < nL) (hl' : (i, Value.long x) :: lv.filter (fun q => !(q.1 == i) && (!(q.1 == i + 1) && !(q.1 + 1 == i && q.2.category == 2))) = lv') (g : Go X nL S (pc + 2) lv' st) : Go X nL S pc lv (.long x :: st) := by
  obtain ⟨p, l, e, R, s, m, args, below, meth, c, A, a, z, Q⟩ := X
  exact fun H locs ls hP hD hS hl => lv_lstore C.1 C.2.1 hd hl hn hl' (fun ls' hl2 => g H locs ls' hP hD hS hl2)
theorem go_astore_n {X : tq_Cx} {cc : ByteArray} {nL : Nat} {own : String} {kr : Nat} {S : tq_St} {pc : Nat} {lv : List (Nat × Value)} {st : List Value} (C : tq_C X cc nL own kr) {q : Fin 4} {i : Nat} {x : Nat} (hd : decode cc pc = .ok (.astore_n q, 1)) (lv' : List (Nat × Value)) (hi : (q : Nat) = i) (hn : i < nL) (hl' : (i, Value.ref x) :: lv.filter (fun q => !(q.1 == i) && !(q.1 + 1 == i && q.2.category == 2)) = lv') (g : Go X nL S (pc + 1) lv' st) : Go X nL S pc lv (.ref x :: st) := by
  obtain ⟨p, l, e, R, s, m, args, below, meth, c, A, a, z, Q⟩ := X
  exact fun H locs ls hP hD hS hl => lv_astore_n C.1 C.2.1 hd hi hl hn hl' (fun ls' hl2 => g H locs ls' hP hD hS hl2)
theorem go_astore {X : tq_Cx} {cc : ByteArray} {nL : Nat} {own : String} {kr : Nat} {S : tq_St} {pc : Nat} {lv : List (Nat × Value)} {st : List Value} (C : tq_C X cc nL own kr) {i : Nat} {x : Nat} (hd : decode cc pc = .ok (.astore i, 2)) (lv' : List (Nat × Value)) (hn : i < nL) (hl' : (i, Value.ref x) :: lv.filter (fun q => !(q.1 == i) && !(q.1 + 1 == i && q.2.category == 2)) = lv') (g : Go X nL S (pc + 2) lv' st) : Go X nL S pc lv (.ref x :: st) := by
  obtain ⟨p, l, e, R, s, m, args, below, meth, c, A, a, z, Q⟩ := X
  exact fun H locs ls hP hD hS hl => lv_astore C.1 C.2.1 hd hl hn hl' (fun ls' hl2 => g H locs ls' hP hD hS hl2)
theorem go_iinc {X : tq_Cx} {cc : ByteArray} {nL : Nat} {own : String} {kr : Nat} {S : tq_St} {pc : Nat} {lv : List (Nat × Value)} {st : List Value} (C : tq_C X cc nL own kr) {i j : Nat} {n : Int} {x v : Int32} (hd : decode cc pc = .ok (.iinc i n, 3)) (lv' : List (Nat × Value)) (hj : lv[j]? = some (i, .int x)) (hv : x + Int32.ofInt n = v) (hn : i < nL) (hl' : (i, Value.int v) :: lv.filter (fun q => !(q.1 == i) && !(q.1 + 1 == i && q.2.category == 2)) = lv') (g : Go X nL S (pc + 3) lv' st) : Go X nL S pc lv st := by
  obtain ⟨p, l, e, R, s, m, args, below, meth, c, A, a, z, Q⟩ := X
  exact fun H locs ls hP hD hS hl => lv_iinc C.1 C.2.1 hd hl hj hv hn hl' (fun ls' hl2 => g H locs ls' hP hD hS hl2)
theorem go_if_eq {X : tq_Cx} {cc : ByteArray} {nL : Nat} {own : String} {kr : Nat} {S : tq_St} {pc : Nat} {lv : List (Nat × Value)} {st : List Value} (C : tq_C X cc nL own kr) {x : Int32} {off : Int} (hd : decode cc pc = .ok (.ifCond .eq off, 3)) (tgt : Nat) (ht : (pc : Int) + off = (tgt : Int)) (g1 : x = 0 → Go X nL S tgt lv st) (g2 : ¬ x = 0 → Go X nL S (pc + 3) lv st) : Go X nL S pc lv (.int x :: st) := by
  obtain ⟨p, l, e, R, s, m, args, below, meth, c, A, a, z, Q⟩ := X
  exact fun H locs ls hP hD hS hl => lv_if_eq C.1 C.2.1 hd ht (fun h => g1 h H locs ls hP hD hS hl) (fun h => g2 h H locs ls hP hD hS hl)
theorem go_if_ne {X : tq_Cx} {cc : ByteArray} {nL : Nat} {own : String} {kr : Nat} {S : tq_St} {pc : Nat} {lv : List (Nat × Value)} {st : List Value} (C : tq_C X cc nL own kr) {x : Int32} {off : Int} (hd : decode cc pc = .ok (.ifCond .ne off, 3)) (tgt : Nat) (ht : (pc : Int) + off = (tgt : Int)) (g1 : ¬ x = 0 → Go X nL S tgt lv st) (g2 : x = 0 → Go X nL S (pc + 3) lv st) : Go X nL S pc lv (.int x :: st) := by
  obtain ⟨p, l, e, R, s, m, args, below, meth, c, A, a, z, Q⟩ := X
  exact fun H locs ls hP hD hS hl => lv_if_ne C.1 C.2.1 hd ht (fun h => g1 h H locs ls hP hD hS hl) (fun h => g2 h H locs ls hP hD hS hl)
theorem go_if_lt {X : tq_Cx} {cc : ByteArray} {nL : Nat} {own : String} {kr : Nat} {S : tq_St} {pc : Nat} {lv : List (Nat × Value)} {st : List Value} (C : tq_C X cc nL own kr) {x : Int32} {off : Int} (hd : decode cc pc = .ok (.ifCond .lt off, 3)) (tgt : Nat) (ht : (pc : Int) + off = (tgt : Int)) (g1 : x < 0 → Go X nL S tgt lv st) (g2 : ¬ x < 0 → Go X nL S (pc + 3) lv st) : Go X nL S pc lv (.int x :: st) := by
  obtain ⟨p, l, e, R, s, m, args, below, meth, c, A, a, z, Q⟩ := X
  exact fun H locs ls hP hD hS hl => lv_if_lt C.1 C.2.1 hd ht (fun h => g1 h H locs ls hP hD hS hl) (fun h => g2 h H locs ls hP hD hS hl)
theorem go_if_ge {X : tq_Cx} {cc : ByteArray} {nL : Nat} {own : String} {kr : Nat} {S : tq_St} {pc : Nat} {lv : List (Nat × Value)} {st : List Value} (C : tq_C X cc nL own kr) {x : Int32} {off : Int} (hd : decode cc pc = .ok (.ifCond .ge off, 3)) (tgt : Nat) (ht : (pc : Int) + off = (tgt : Int)) (g1 : 0 ≤ x → Go X nL S tgt lv st) (g2 : ¬ 0 ≤ x → Go X nL S (pc + 3) lv st) : Go X nL S pc lv (.int x :: st) := by
  obtain ⟨p, l, e, R, s, m, args, below, meth, c, A, a, z, Q⟩ := X
  exact fun H locs ls hP hD hS hl => lv_if_ge C.1 C.2.1 hd ht (fun h => g1 h H locs ls hP hD hS hl) (fun h => g2 h H locs ls hP hD hS hl)
theorem go_if_gt {X : tq_Cx} {cc : ByteArray} {nL : Nat} {own : String} {kr : Nat} {S : tq_St} {pc : Nat} {lv : List (Nat × Value)} {st : List Value} (C : tq_C X cc nL own kr) {x : Int32} {off : Int} (hd : decode cc pc = .ok (.ifCond .gt off, 3)) (tgt : Nat) (ht : (pc : Int) + off = (tgt : Int)) (g1 : 0 < x → Go X nL S tgt lv st) (g2 : ¬ 0 < x → Go X nL S (pc + 3) lv st) : Go X nL S pc lv (.int x :: st) := by
  obtain ⟨p, l, e, R, s, m, args, below, meth, c, A, a, z, Q⟩ := X
  exact fun H locs ls hP hD hS hl => lv_if_gt C.1 C.2.1 hd ht (fun h => g1 h H locs ls hP hD hS hl) (fun h => g2 h H locs ls hP hD hS hl)
theorem go_if_le {X : tq_Cx} {cc : ByteArray} {nL : Nat} {own : String} {kr : Nat} {S : tq_St} {pc : Nat} {lv : List (Nat × Value)} {st : List Value} (C : tq_C X cc nL own kr) {x : Int32} {off : Int} (hd : decode cc pc = .ok (.ifCond .le off, 3)) (tgt : Nat) (ht : (pc : Int) + off = (tgt : Int)) (g1 : x ≤ 0 → Go X nL S tgt lv st) (g2 : ¬ x ≤ 0 → Go X nL S (pc + 3) lv st) : Go X nL S pc lv (.int x :: st) := by
  obtain ⟨p, l, e, R, s, m, args, below, meth, c, A, a, z, Q⟩ := X
  exact fun H locs ls hP hD hS hl => lv_if_le C.1 C.2.1 hd ht (fun h => g1 h H locs ls hP hD hS hl) (fun h => g2 h H locs ls hP hD hS hl)
theorem go_ic_eq {X : tq_Cx} {cc : ByteArray} {nL : Nat} {own : String} {kr : Nat} {S : tq_St} {pc : Nat} {lv : List (Nat × Value)} {st : List Value} (C : tq_C X cc nL own kr) {x y : Int32} {off : Int} (hd : decode cc pc = .ok (.if_icmp .eq off, 3)) (tgt : Nat) (ht : (pc : Int) + off = (tgt : Int)) (g1 : x = y → Go X nL S tgt lv st) (g2 : ¬ x = y → Go X nL S (pc + 3) lv st) : Go X nL S pc lv (.int y :: .int x :: st) := by
  obtain ⟨p, l, e, R, s, m, args, below, meth, c, A, a, z, Q⟩ := X
  exact fun H locs ls hP hD hS hl => lv_icmp_eq C.1 C.2.1 hd ht (fun h => g1 h H locs ls hP hD hS hl) (fun h => g2 h H locs ls hP hD hS hl)
theorem go_ic_ne {X : tq_Cx} {cc : ByteArray} {nL : Nat} {own : String} {kr : Nat} {S : tq_St} {pc : Nat} {lv : List (Nat × Value)} {st : List Value} (C : tq_C X cc nL own kr) {x y : Int32} {off : Int} (hd : decode cc pc = .ok (.if_icmp .ne off, 3)) (tgt : Nat) (ht : (pc : Int) + off = (tgt : Int)) (g1 : ¬ x = y → Go X nL S tgt lv st) (g2 : x = y → Go X nL S (pc + 3) lv st) : Go X nL S pc lv (.int y :: .int x :: st) := by
  obtain ⟨p, l, e, R, s, m, args, below, meth, c, A, a, z, Q⟩ := X
  exact fun H locs ls hP hD hS hl => lv_icmp_ne C.1 C.2.1 hd ht (fun h => g1 h H locs ls hP hD hS hl) (fun h => g2 h H locs ls hP hD hS hl)
theorem go_ic_lt {X : tq_Cx} {cc : ByteArray} {nL : Nat} {own : String} {kr : Nat} {S : tq_St} {pc : Nat} {lv : List (Nat × Value)} {st : List Value} (C : tq_C X cc nL own kr) {x y : Int32} {off : Int} (hd : decode cc pc = .ok (.if_icmp .lt off, 3)) (tgt : Nat) (ht : (pc : Int) + off = (tgt : Int)) (g1 : x < y → Go X nL S tgt lv st) (g2 : ¬ x < y → Go X nL S (pc + 3) lv st) : Go X nL S pc lv (.int y :: .int x :: st) := by
  obtain ⟨p, l, e, R, s, m, args, below, meth, c, A, a, z, Q⟩ := X
  exact fun H locs ls hP hD hS hl => lv_icmp_lt C.1 C.2.1 hd ht (fun h => g1 h H locs ls hP hD hS hl) (fun h => g2 h H locs ls hP hD hS hl)
theorem go_ic_ge {X : tq_Cx} {cc : ByteArray} {nL : Nat} {own : String} {kr : Nat} {S : tq_St} {pc : Nat} {lv : List (Nat × Value)} {st : List Value} (C : tq_C X cc nL own kr) {x y : Int32} {off : Int} (hd : decode cc pc = .ok (.if_icmp .ge off, 3)) (tgt : Nat) (ht : (pc : Int) + off = (tgt : Int)) (g1 : y ≤ x → Go X nL S tgt lv st) (g2 : ¬ y ≤ x → Go X nL S (pc + 3) lv st) : Go X nL S pc lv (.int y :: .int x :: st) := by
  obtain ⟨p, l, e, R, s, m, args, below, meth, c, A, a, z, Q⟩ := X
  exact fun H locs ls hP hD hS hl => lv_icmp_ge C.1 C.2.1 hd ht (fun h => g1 h H locs ls hP hD hS hl) (fun h => g2 h H locs ls hP hD hS hl)
theorem go_ic_gt {X : tq_Cx} {cc : ByteArray} {nL : Nat} {own : String} {kr : Nat} {S : tq_St} {pc : Nat} {lv : List (Nat × Value)} {st : List Value} (C : tq_C X cc nL own kr) {x y : Int32} {off : Int} (hd : decode cc pc = .ok (.if_icmp .gt off, 3)) (tgt : Nat) (ht : (pc : Int) + off = (tgt : Int)) (g1 : y < x → Go X nL S tgt lv st) (g2 : ¬ y < x → Go X nL S (pc + 3) lv st) : Go X nL S pc lv (.int y :: .int x :: st) := by
  obtain ⟨p, l, e, R, s, m, args, below, meth, c, A, a, z, Q⟩ := X
  exact fun H locs ls hP hD hS hl => lv_icmp_gt C.1 C.2.1 hd ht (fun h => g1 h H locs ls hP hD hS hl) (fun h => g2 h H locs ls hP hD hS hl)
theorem go_ic_le {X : tq_Cx} {cc : ByteArray} {nL : Nat} {own : String} {kr : Nat} {S : tq_St} {pc : Nat} {lv : List (Nat × Value)} {st : List Value} (C : tq_C X cc nL own kr) {x y : Int32} {off : Int} (hd : decode cc pc = .ok (.if_icmp .le off, 3)) (tgt : Nat) (ht : (pc : Int) + off = (tgt : Int)) (g1 : x ≤ y → Go X nL S tgt lv st) (g2 : ¬ x ≤ y → Go X nL S (pc + 3) lv st) : Go X nL S pc lv (.int y :: .int x :: st) := by
  obtain ⟨p, l, e, R, s, m, args, below, meth, c, A, a, z, Q⟩ := X
  exact fun H locs ls hP hD hS hl => lv_icmp_le C.1 C.2.1 hd ht (fun h => g1 h H locs ls hP hD hS hl) (fun h => g2 h H locs ls hP hD hS hl)
theorem go_goto {X : tq_Cx} {cc : ByteArray} {nL : Nat} {own : String} {kr : Nat} {S : tq_St} {pc : Nat} {lv : List (Nat × Value)} {st : List Value} (C : tq_C X cc nL own kr) {off : Int} (hd : decode cc pc = .ok (.goto off, 3)) (tgt : Nat) (ht : (pc : Int) + off = (tgt : Int)) (g : Go X nL S tgt lv st) : Go X nL S pc lv st := by
  obtain ⟨p, l, e, R, s, m, args, below, meth, c, A, a, z, Q⟩ := X
  exact fun H locs ls hP hD hS hl => lv_goto C.1 C.2.1 hd ht (g H locs ls hP hD hS hl)
theorem go_tabOut {X : tq_Cx} {cc : ByteArray} {nL : Nat} {own : String} {kr : Nat} {S : tq_St} {pc : Nat} {lv : List (Nat × Value)} {st : List Value} (C : tq_C X cc nL own kr) {dflt lo hi : Int} {offs : Array Int} {len : Nat} {x : Int32} (hd : decode cc pc = .ok (.tableswitch dflt lo hi offs, len)) (tgt : Nat) (ht : (pc : Int) + dflt = (tgt : Int)) (h : x.toInt < lo ∨ hi < x.toInt) (g : Go X nL S tgt lv st) : Go X nL S pc lv (.int x :: st) := by
  obtain ⟨p, l, e, R, s, m, args, below, meth, c, A, a, z, Q⟩ := X
  exact fun H locs ls hP hD hS hl => lv_tableOut C.1 C.2.1 hd h ht (g H locs ls hP hD hS hl)
theorem go_tabIn {X : tq_Cx} {cc : ByteArray} {nL : Nat} {own : String} {kr : Nat} {S : tq_St} {pc : Nat} {lv : List (Nat × Value)} {st : List Value} (C : tq_C X cc nL own kr) {dflt lo hi : Int} {offs : Array Int} {len : Nat} {x : Int32} (hd : decode cc pc = .ok (.tableswitch dflt lo hi offs, len)) (tgt : Nat) (off : Int) (ht : (pc : Int) + off = (tgt : Int)) (h1 : ¬ x.toInt < lo) (h2 : ¬ hi < x.toInt) (ho : offs[(x.toInt - lo).toNat]? = some off) (g : Go X nL S tgt lv st) : Go X nL S pc lv (.int x :: st) := by
  obtain ⟨p, l, e, R, s, m, args, below, meth, c, A, a, z, Q⟩ := X
  exact fun H locs ls hP hD hS hl => lv_tableIn C.1 C.2.1 hd h1 h2 ho ht (g H locs ls hP hD hS hl)
theorem go_sub {X : tq_Cx} {nL : Nat} {S : tq_St} {pc : Nat} {lv lv' : List (Nat × Value)} {st : List Value} (ks : List Nat) (h : lv_pick lv ks = lv') (g : Go X nL S pc lv' st) : Go X nL S pc lv st := by
  obtain ⟨p, l, e, R, s, m, args, below, meth, c, A, a, z, Q⟩ := X
  exact fun H locs ls hP hD hS hl => g H locs ls hP hD hS (lv_sub hl ks h)
theorem go_ldc {X : tq_Cx} {cc : ByteArray} {nL : Nat} {own : String} {kr : Nat} {S : tq_St} {pc : Nat} {lv : List (Nat × Value)} {st : List Value} (C : tq_C X cc nL own kr) {index : Nat} {v : Int32} (hw : Cond.constant own index v ∈ tq_tbl) (hd : decode cc pc = .ok (.ldc index, 2)) (g : Go X nL S (pc + 2) lv (.int v :: st)) : Go X nL S pc lv st := by
  obtain ⟨p, l, e, R, s, m, args, below, meth, c, A, a, z, Q⟩ := X
  exact fun H locs ls hP hD hS hl => lv_ldc C.1 C.2.1 C.2.2.2.1 (C.2.2.2.2.1 _ hw) hd (g H locs ls hP hD hS hl)
theorem go_ldc2 {X : tq_Cx} {cc : ByteArray} {nL : Nat} {own : String} {kr : Nat} {S : tq_St} {pc : Nat} {lv : List (Nat × Value)} {st : List Value} (C : tq_C X cc nL own kr) {index : Nat} {v : Int64} (hw : Cond.constantLong own index v ∈ tq_tbl) (hd : decode cc pc = .ok (.ldc2_w index, 3)) (g : Go X nL S (pc + 3) lv (.long v :: st)) : Go X nL S pc lv st := by
  obtain ⟨p, l, e, R, s, m, args, below, meth, c, A, a, z, Q⟩ := X
  exact fun H locs ls hP hD hS hl => lv_ldc2 C.1 C.2.1 C.2.2.2.1 (C.2.2.2.2.1 _ hw) hd (g H locs ls hP hD hS hl)
theorem go_ldcw {X : tq_Cx} {cc : ByteArray} {nL : Nat} {own : String} {kr : Nat} {S : tq_St} {pc : Nat} {lv : List (Nat × Value)} {st : List Value} (C : tq_C X cc nL own kr) {index : Nat} {v : Int32} (hw : Cond.constant own index v ∈ tq_tbl) (hd : decode cc pc = .ok (.ldc_w index, 3)) (g : Go X nL S (pc + 3) lv (.int v :: st)) : Go X nL S pc lv st := by
  obtain ⟨p, l, e, R, s, m, args, below, meth, c, A, a, z, Q⟩ := X
  exact fun H locs ls hP hD hS hl => lv_ldcw C.1 C.2.1 C.2.2.2.1 (C.2.2.2.2.1 _ hw) hd (g H locs ls hP hD hS hl)
end
section
-- FIELDS AND ARRAYS
section HP
variable {X : tq_Cx} {cc : ByteArray} {nL : Nat} {own : String} {kr : Nat} {S : tq_St} {pc : Nat} {lv : List (Nat × Value)} {st : List Value}
theorem go_get (C : tq_C X cc nL own kr) {o ci : Nat} (hq : (o, 0) ∈ tq_cids) {fs : List Value} (hc : tq_gc (tq_la X) S o 0 = .inr (ci, fs)) {Cn : String} {T : u_T} {N : Nat} (hcl : vwCl[ci]? = some (Cn, T, N)) (hin : ∀ w ∈ u_ws Cn T N, w ∈ tq_tbl) (k : Nat) (hk : k < N) {index : Nat} (hlink : Cond.fieldLink own index (T k).1 (T k).2.1 (T k).2.2.1 ∈ tq_tbl) {v : Value} (hv : fs[k]? = some v) (hd : decode cc pc = .ok (.getfield index, 3)) (g : Go X nL S (pc + 3) lv (v :: st)) : Go X nL S pc lv (.ref ((tq_la X).1 o 0) :: st) := by
  obtain ⟨p, l, e, R, s, m, args, below, meth, c, A, a, z, Q⟩ := X
  intro H locs ls hP hD hS hl
  obtain ⟨q0, -, hq0⟩ := tq_at a S hq
  have hc : tq_gc a S o 0 = .inr (ci, fs) := hc
  rw [hc] at hq0
  exact va_get (D := a.2.1) (cl := vwCl) (ci := ci) (v := v) (C := Cn) (T := T) (N := N) C.1 C.2.1 C.2.2.2.2.1 hin C.2.2.2.1 C.2.2.2.2.2.1 hP q0 hq0 hcl k hk (C.2.2.2.2.1 _ hlink) (fun _ h9 => h9) hv hd (g H locs ls hP hD hS hl)
theorem go_put (C : tq_C X cc nL own kr) {o ci : Nat} (hq : (o, 0) ∈ tq_cids) {fs : List Value} (hc : tq_gc (tq_la X) S o 0 = .inr (ci, fs)) {Cn : String} {T : u_T} {N : Nat} (hcl : vwCl[ci]? = some (Cn, T, N)) (hin : ∀ w ∈ u_ws Cn T N, w ∈ tq_tbl) (ty0 : Nat → FieldType) (hty : ∀ k, k < N → parseFieldDescriptor (T k).2.2.1 = some (ty0 k)) (hnm : ∀ a, a < N → ∀ b, b < N → a ≠ b → (T a).2.1 ≠ (T b).2.1) (k : Nat) (hk : k < N) {index : Nat} (hlink : Cond.fieldLink own index (T k).1 (T k).2.1 (T k).2.2.1 ∈ tq_tbl) (hfin : (T k).2.2.2 = false) {ty : FieldType} {v : Value} (hdc : parseFieldDescriptor (T k).2.2.1 = some ty) (hn : narrow ty v = v) (hfit : fits ty v = true) (hlen : k < fs.length) {S' : tq_St} (hx : tq_gc (tq_la X) S' o 0 = .inr (ci, fs.set k v)) (hne : ∀ o' r', (o', r') ∈ tq_cids → ¬ (o' = o ∧ r' = 0) → tq_gc (tq_la X) S' o' r' = tq_gc (tq_la X) S o' r') (hd : decode cc pc = .ok (.putfield index, 3)) (g : Go X nL S' (pc + 3) lv st) : Go X nL S pc lv (v :: .ref ((tq_la X).1 o 0) :: st) := by
  obtain ⟨p, l, e, R, s, m, args, below, meth, c, A, a, z, Q⟩ := X
  intro H locs ls hP hD hS hl
  obtain ⟨q0, hk0, hq0⟩ := tq_at a S hq
  have hc : tq_gc a S o 0 = .inr (ci, fs) := hc
  rw [hc] at hq0
  have hset := tq_set a S S' hk0 hx hne
  exact va_put (D := a.2.1) (cl := vwCl) (ci := ci) (v := v) (ty := ty) (C := Cn) (T := T) (N := N) C.1 C.2.1 C.2.2.2.2.1 hin ty0 hty hnm C.2.2.2.1 C.2.2.2.2.2.1 hP hD hS q0 hq0 hcl k hk (C.2.2.2.2.1 _ hlink) (fun _ h9 => h9) hfin hdc hn hfit hlen hd (fun H2 locs2 hP2 hD2 hS2 => g H2 locs2 ls (by rw [← hset]; exact hP2) (by rw [← hset]; exact hD2) hS2 hl)
theorem go_iald (C : tq_C X cc nL own kr) {o k n : Nat} (hq : (o, k + 1) ∈ tq_cids) (hc : tq_gc (tq_la X) S o (k + 1) = .inl ((tq_la X).2.2 0, n, .inl (S.2.1 o k))) {i : Int32} (hin : vp_in i n) (hd : decode cc pc = .ok (.iaload, 1)) (g : Go X nL S (pc + 1) lv (.int (S.2.1 o k i.toNatClampNeg) :: st)) : Go X nL S pc lv (.int i :: .ref ((tq_la X).1 o (k + 1)) :: st) := by
  obtain ⟨p, l, e, R, s, m, args, below, meth, c, A, a, z, Q⟩ := X
  intro H locs ls hP hD hS hl
  obtain ⟨q0, -, hq0⟩ := tq_at a S hq
  have hc : tq_gc a S o (k + 1) = _ := hc
  rw [hc] at hq0
  exact va_iald C.1 C.2.1 C.2.2.2.2.2.1 hP q0 0 hq0 rfl hin hd (g H locs ls hP hD hS hl)
theorem go_bald (C : tq_C X cc nL own kr) {o k n : Nat} (hq : (o, k + 1) ∈ tq_cids) (hc : tq_gc (tq_la X) S o (k + 1) = .inl ((tq_la X).2.2 1, n, .inl (S.2.1 o k))) {i : Int32} (hin : vp_in i n) (hd : decode cc pc = .ok (.baload, 1)) (g : Go X nL S (pc + 1) lv (.int (S.2.1 o k i.toNatClampNeg) :: st)) : Go X nL S pc lv (.int i :: .ref ((tq_la X).1 o (k + 1)) :: st) := by
  obtain ⟨p, l, e, R, s, m, args, below, meth, c, A, a, z, Q⟩ := X
  intro H locs ls hP hD hS hl
  obtain ⟨q0, -, hq0⟩ := tq_at a S hq
  have hc : tq_gc a S o (k + 1) = _ := hc
  rw [hc] at hq0
  exact va_bald C.1 C.2.1 C.2.2.2.2.2.1 hP q0 1 hq0 rfl hin hd (g H locs ls hP hD hS hl)
theorem go_zald (C : tq_C X cc nL own kr) {o k n : Nat} (hq : (o, k + 1) ∈ tq_cids) (hc : tq_gc (tq_la X) S o (k + 1) = .inl ((tq_la X).2.2 2, n, .inl (S.2.1 o k))) {i : Int32} (hin : vp_in i n) (hd : decode cc pc = .ok (.baload, 1)) (g : Go X nL S (pc + 1) lv (.int (S.2.1 o k i.toNatClampNeg) :: st)) : Go X nL S pc lv (.int i :: .ref ((tq_la X).1 o (k + 1)) :: st) := by
  obtain ⟨p, l, e, R, s, m, args, below, meth, c, A, a, z, Q⟩ := X
  intro H locs ls hP hD hS hl
  obtain ⟨q0, -, hq0⟩ := tq_at a S hq
  have hc : tq_gc a S o (k + 1) = _ := hc
  rw [hc] at hq0
  exact va_zald C.1 C.2.1 C.2.2.2.2.2.1 hP q0 2 hq0 rfl hin hd (g H locs ls hP hD hS hl)
theorem go_lald (C : tq_C X cc nL own kr) {i : Int32} (hin : vp_in i 5) (hd : decode cc pc = .ok (.laload, 1)) (g : Go X nL S (pc + 1) lv (.long (S.2.2.2 i.toNatClampNeg) :: st)) : Go X nL S pc lv (.int i :: .ref ((tq_la X).1 22 2) :: st) := by
  obtain ⟨p, l, e, R, s, m, args, below, meth, c, A, a, z, Q⟩ := X
  intro H locs ls hP hD hS hl
  obtain ⟨q0, -, hq0⟩ := tq_at a S (o := 22) (r := 2) (by decide +kernel)
  exact va_lald C.1 C.2.1 C.2.2.2.2.2.1 hP q0 3 hq0 rfl hin hd (g H locs ls hP hD hS hl)
theorem go_aald (C : tq_C X cc nL own kr) {o r n t b : Nat} {Cn : String} (hq : (o, r) ∈ tq_cids) (hc : tq_gc (tq_la X) S o r = .inl ((tq_la X).2.2 t, n, .inr (.inr (.inr (.inr (fun i => some ((tq_la X).1 (b + i) 0))))))) (ht : (tq_ty (tq_la X))[t]? = some ((tq_la X).2.2 t, .object Cn)) {i : Int32} (hin : vp_in i n) (hd : decode cc pc = .ok (.aaload, 1)) (g : Go X nL S (pc + 1) lv (.ref ((tq_la X).1 (b + i.toNatClampNeg) 0) :: st)) : Go X nL S pc lv (.int i :: .ref ((tq_la X).1 o r) :: st) := by
  obtain ⟨p, l, e, R, s, m, args, below, meth, c, A, a, z, Q⟩ := X
  intro H locs ls hP hD hS hl
  obtain ⟨q0, -, hq0⟩ := tq_at a S hq
  have hc : tq_gc a S o r = _ := hc
  rw [hc] at hq0
  exact va_aldq C.1 C.2.1 C.2.2.2.2.2.1 hP q0 t hq0 ht hin hd (g H locs ls hP hD hS hl)
theorem go_iast (C : tq_C X cc nL own kr) {o k n : Nat} (hq : (o, k + 1) ∈ tq_cids) (hc : ∀ S : tq_St, tq_gc (tq_la X) S o (k + 1) = .inl ((tq_la X).2.2 0, n, .inl (S.2.1 o k))) (hk : tq_arr o k) {i x : Int32} (hin : vp_in i n) (hd : decode cc pc = .ok (.iastore, 1)) (g : Go X nL (sA S o k i.toNatClampNeg x) (pc + 1) lv st) : Go X nL S pc lv (.int x :: .int i :: .ref ((tq_la X).1 o (k + 1)) :: st) := by
  obtain ⟨p, l, e, R, s, m, args, below, meth, c, A, a, z, Q⟩ := X
  intro H locs ls hP hD hS hl
  obtain ⟨q0, hk0, hq0⟩ := tq_at a S hq
  have hc : ∀ S : tq_St, tq_gc a S o (k + 1) = .inl (a.2.2 0, n, .inl (S.2.1 o k)) := hc
  rw [hc] at hq0
  have hset := tq_set a S (sA S o k i.toNatClampNeg x) (x := .inl (a.2.2 0, n, .inl (upd (S.2.1 o k) i.toNatClampNeg x))) hk0 (by rw [hc]; simp [sA, sC]) (tq_gcA a S hk _)
  exact va_iast C.1 C.2.1 C.2.2.2.2.2.1 hP hD hS q0 0 hq0 rfl hin hd (fun H2 locs2 hP2 hD2 hS2 => g H2 locs2 ls (by rw [← hset]; exact hP2) (by rw [← hset]; exact hD2) hS2 hl)
theorem go_bast (C : tq_C X cc nL own kr) {o k n : Nat} (hq : (o, k + 1) ∈ tq_cids) (hc : ∀ S : tq_St, tq_gc (tq_la X) S o (k + 1) = .inl ((tq_la X).2.2 1, n, .inl (S.2.1 o k))) (hk : tq_arr o k) {i x : Int32} (hin : vp_in i n) (hd : decode cc pc = .ok (.bastore, 1)) (g : Go X nL (sA S o k i.toNatClampNeg (vp_nar .byte x)) (pc + 1) lv st) : Go X nL S pc lv (.int x :: .int i :: .ref ((tq_la X).1 o (k + 1)) :: st) := by
  obtain ⟨p, l, e, R, s, m, args, below, meth, c, A, a, z, Q⟩ := X
  intro H locs ls hP hD hS hl
  obtain ⟨q0, hk0, hq0⟩ := tq_at a S hq
  have hc : ∀ S : tq_St, tq_gc a S o (k + 1) = .inl (a.2.2 1, n, .inl (S.2.1 o k)) := hc
  rw [hc] at hq0
  have hset := tq_set a S (sA S o k i.toNatClampNeg (vp_nar .byte x)) (x := .inl (a.2.2 1, n, .inl (upd (S.2.1 o k) i.toNatClampNeg (vp_nar .byte x)))) hk0 (by rw [hc]; simp [sA, sC]) (tq_gcA a S hk _)
  exact va_bast C.1 C.2.1 C.2.2.2.2.2.1 hP hD hS q0 1 hq0 rfl hin hd (fun H2 locs2 hP2 hD2 hS2 => g H2 locs2 ls (by rw [← hset]; exact hP2) (by rw [← hset]; exact hD2) hS2 hl)
theorem go_zast (C : tq_C X cc nL own kr) {o k n : Nat} (hq : (o, k + 1) ∈ tq_cids) (hc : ∀ S : tq_St, tq_gc (tq_la X) S o (k + 1) = .inl ((tq_la X).2.2 2, n, .inl (S.2.1 o k))) (hk : tq_arr o k) {i x : Int32} (hin : vp_in i n) (hd : decode cc pc = .ok (.bastore, 1)) (g : Go X nL (sA S o k i.toNatClampNeg (vp_nar .boolean x)) (pc + 1) lv st) : Go X nL S pc lv (.int x :: .int i :: .ref ((tq_la X).1 o (k + 1)) :: st) := by
  obtain ⟨p, l, e, R, s, m, args, below, meth, c, A, a, z, Q⟩ := X
  intro H locs ls hP hD hS hl
  obtain ⟨q0, hk0, hq0⟩ := tq_at a S hq
  have hc : ∀ S : tq_St, tq_gc a S o (k + 1) = .inl (a.2.2 2, n, .inl (S.2.1 o k)) := hc
  rw [hc] at hq0
  have hset := tq_set a S (sA S o k i.toNatClampNeg (vp_nar .boolean x)) (x := .inl (a.2.2 2, n, .inl (upd (S.2.1 o k) i.toNatClampNeg (vp_nar .boolean x)))) hk0 (by rw [hc]; simp [sA, sC]) (tq_gcA a S hk _)
  exact va_zast C.1 C.2.1 C.2.2.2.2.2.1 hP hD hS q0 2 hq0 rfl hin hd (fun H2 locs2 hP2 hD2 hS2 => g H2 locs2 ls (by rw [← hset]; exact hP2) (by rw [← hset]; exact hD2) hS2 hl)
theorem go_last (C : tq_C X cc nL own kr) {i : Int32} {x : Int64} (hin : vp_in i 5) (hd : decode cc pc = .ok (.lastore, 1)) (g : Go X nL (sG S i.toNatClampNeg x) (pc + 1) lv st) : Go X nL S pc lv (.long x :: .int i :: .ref ((tq_la X).1 22 2) :: st) := by
  obtain ⟨p, l, e, R, s, m, args, below, meth, c, A, a, z, Q⟩ := X
  intro H locs ls hP hD hS hl
  obtain ⟨q0, hk0, hq0⟩ := tq_at a S (o := 22) (r := 2) (by decide +kernel)
  have hset := tq_set a S (sG S i.toNatClampNeg x) (x := .inl (a.2.2 3, 5, .inr (.inl (vp_updL S.2.2.2 i.toNatClampNeg x)))) hk0 rfl (tq_gcG a S _ _)
  exact va_last C.1 C.2.1 C.2.2.2.2.2.1 hP hD hS q0 3 hq0 rfl hin hd (fun H2 locs2 hP2 hD2 hS2 => g H2 locs2 ls (by rw [← hset]; exact hP2) (by rw [← hset]; exact hD2) hS2 hl)
theorem go_copy (C : tq_C X cc nL own kr) (hkr : 1 ≤ kr) {o k n o2 k2 n2 : Nat} (hq : (o, k + 1) ∈ tq_cids) (hc : tq_gc (tq_la X) S o (k + 1) = .inl ((tq_la X).2.2 0, n, .inl (S.2.1 o k))) (hq2 : (o2, k2 + 1) ∈ tq_cids) (hc2 : ∀ S : tq_St, tq_gc (tq_la X) S o2 (k2 + 1) = .inl ((tq_la X).2.2 0, n2, .inl (S.2.1 o2 k2))) (hk2 : tq_arr o2 k2) {index : Nat} (hlink : Cond.methodLink own index arraycopyName ∈ tq_tbl) (hnat : Cond.native arraycopyName ∈ tq_tbl) (hstat : Cond.static arraycopyName ∈ tq_tbl) (hini : Cond.initialized "java/lang/System" ∈ tq_tbl) {ln : Int32} (h3 : ¬ ln < 0) (h4 : ln.toNatClampNeg ≤ n) (h5 : ln.toNatClampNeg ≤ n2) (hst : st = []) (hd : decode cc pc = .ok (.invokestatic index, 3)) (g : Go X nL (sC S o2 k2 (va_cpy (S.2.1 o k) (S.2.1 o2 k2) 0 0 ln.toNatClampNeg)) (pc + 3) lv st) : Go X nL S pc lv (.int ln :: .int 0 :: .ref ((tq_la X).1 o2 (k2 + 1)) :: .int 0 :: .ref ((tq_la X).1 o (k + 1)) :: st) := by
  subst hst
  obtain ⟨p, l, e, R, s, m, args, below, meth, c, A, a, z, Q⟩ := X
  intro H locs ls hP hD hS hl
  obtain ⟨q0, -, hq0⟩ := tq_at a S hq
  have hc : tq_gc a S o (k + 1) = _ := hc
  rw [hc] at hq0
  obtain ⟨q1, hk1, hq1⟩ := tq_at a S hq2
  have hc2 : ∀ S : tq_St, tq_gc a S o2 (k2 + 1) = .inl (a.2.2 0, n2, .inl (S.2.1 o2 k2)) := hc2
  rw [hc2] at hq1
  have hset := tq_set a S (sC S o2 k2 (va_cpy (S.2.1 o k) (S.2.1 o2 k2) 0 0 ln.toNatClampNeg)) (x := .inl (a.2.2 0, n2, .inl (va_cpy (S.2.1 o k) (S.2.1 o2 k2) 0 0 ln.toNatClampNeg))) hk1 (by rw [hc2]; simp [sC]) (tq_gcA a S hk2 _)
  have hR := C.2.2.2.2.2.2.2.1
  refine va_copyi (ty := .int) C.1 C.2.1 (by rw [hl.1]; exact C.2.2.1) C.2.2.2.1 (C.2.2.2.2.1 _ hlink) (C.2.2.2.2.1 _ hnat) (C.2.2.2.2.1 _ hstat) (C.2.2.2.2.1 _ hini) C.2.2.2.2.2.1 hP hD hS q0 q1 0 0 hq0 hq1 rfl rfl rfl (sp := 0) (dp := 0) (n := ln) (by decide) (by decide) h3 (by rw [show (0 : Int32).toNatClampNeg = 0 by decide]; omega) (by rw [show (0 : Int32).toNatClampNeg = 0 by decide]; omega) (fun _ _ => rfl) ?_ ?_ hd (fun H2 locs2 hP2 hD2 hS2 => g H2 locs2 ls (by rw [← hset]; exact hP2) (by rw [← hset]; exact hD2) hS2 hl)
  · exact Nat.le_trans hkr hR.1
  · refine Nat.le_trans ?_ hR.2.1
    have h9 : (([] : List Value).map fun v => v.category).sum + (nativeFrameWords "java/lang/System" "arraycopy" 5 + 11) ≤ 100 := by decide +kernel
    omega
theorem go_max (C : tq_C X cc nL own kr) (hkr : 1 ≤ kr) {index : Nat} (hlink : Cond.methodLink own index Lib.Math.max.name ∈ tq_tbl) (hstat : Cond.static Lib.Math.max.name ∈ tq_tbl) (hini : Cond.initialized "java/lang/Math" ∈ tq_tbl) (hcode : Cond.code Lib.Math.max.name Lib.Math.max.code 2 (some .int) ∈ tq_tbl) {x y : Int32} (hst : (st.map fun v => v.category).sum ≤ 80) (hd : decode cc pc = .ok (.invokestatic index, 3)) (g : Go X nL S (pc + 3) lv (.int (if x < y then y else x) :: st)) : Go X nL S pc lv (.int y :: .int x :: st) := by
  obtain ⟨p, l, e, R, s, m, args, below, meth, c, A, a, z, Q⟩ := X
  intro H locs ls hP hD hS hl
  have hR := C.2.2.2.2.2.2.2.1
  exact va_mmax C.1 C.2.1 (by rw [hl.1]; exact C.2.2.1) C.2.2.2.1 (C.2.2.2.2.1 _ hlink) (C.2.2.2.2.1 _ hstat) (C.2.2.2.2.1 _ hini) (C.2.2.2.2.1 _ hcode) (Nat.le_trans hkr hR.1) (Nat.le_trans (by omega) hR.2.1) hR.2.2.1 hR.2.2.2 hd (g H locs ls hP hD hS hl)
theorem go_min (C : tq_C X cc nL own kr) (hkr : 1 ≤ kr) {index : Nat} (hlink : Cond.methodLink own index Lib.Math.min.name ∈ tq_tbl) (hstat : Cond.static Lib.Math.min.name ∈ tq_tbl) (hini : Cond.initialized "java/lang/Math" ∈ tq_tbl) (hcode : Cond.code Lib.Math.min.name Lib.Math.min.code 2 (some .int) ∈ tq_tbl) {x y : Int32} (hst : (st.map fun v => v.category).sum ≤ 80) (hd : decode cc pc = .ok (.invokestatic index, 3)) (g : Go X nL S (pc + 3) lv (.int (if y < x then y else x) :: st)) : Go X nL S pc lv (.int y :: .int x :: st) := by
  obtain ⟨p, l, e, R, s, m, args, below, meth, c, A, a, z, Q⟩ := X
  intro H locs ls hP hD hS hl
  have hR := C.2.2.2.2.2.2.2.1
  exact va_mmin C.1 C.2.1 (by rw [hl.1]; exact C.2.2.1) C.2.2.2.1 (C.2.2.2.2.1 _ hlink) (C.2.2.2.2.1 _ hstat) (C.2.2.2.2.1 _ hini) (C.2.2.2.2.1 _ hcode) (Nat.le_trans hkr hR.1) (Nat.le_trans (by omega) hR.2.1) hR.2.2.1 hR.2.2.2 hd (g H locs ls hP hD hS hl)
theorem go_brims (C : tq_C X cc nL RX1 kr) (hd : decode cc pc = .ok (.getstatic 72, 3)) (g : Go X nL S (pc + 3) lv (.ref (tq_zl X).1 :: st)) : Go X nL S pc lv st := by
  obtain ⟨p, l, e, R, s, m, args, below, meth, c, A, a, z, Q⟩ := X
  intro H locs ls hP hD hS hl
  have hZ : tq_Z z A s s.heap := C.2.2.2.2.2.2.1
  exact va_getsN C.1 C.2.1 hZ.1 hS C.2.2.2.1 (va_Nw.use rfl hZ.2.2.1) (fun _ h9 => h9) hd (g H locs ls hP hD hS hl)
theorem go_brald (C : tq_C X cc nL own kr) {i : Int32} (hin : vp_in i 4) (hd : decode cc pc = .ok (.iaload, 1)) (g : Go X nL S (pc + 1) lv (.int (tq_brL.getD i.toNatClampNeg 0) :: st)) : Go X nL S pc lv (.int i :: .ref (tq_zl X).1 :: st) := by
  obtain ⟨p, l, e, R, s, m, args, below, meth, c, A, a, z, Q⟩ := X
  intro H locs ls hP hD hS hl
  have hZ : tq_Z z A s s.heap := C.2.2.2.2.2.2.1
  exact va_ti C.1 C.2.1 hZ.2.1 hS hin rfl hd (g H locs ls hP hD hS hl)
end HP
end
section
-- CONTRACTS OUT OF WALKS, BY THE KIND OF THE ANSWER
section MK2
variable {y : MethodName} {cc : ByteArray} {n k : Nat} {av : tq_La → tq_Zl → List Value} {S : tq_St}
theorem tq_mkI {K : Int32 → tq_St → Prop} (hy : plainName y.cls = true) (hlen : ∀ a z, (lg_sl (av a z)).length ≤ n) (h : ∀ X : tq_Cx, tq_C X cc n y.cls k → tq_Ri X cc n K → Go X n S 0 (lv_args 0 (av (tq_la X) (tq_zl X))) []) : tq_Mi y cc n (some .int) k av S K := by
  refine tq_mk (Qc := fun a z A => va_Qi K (tq_Post a A) A) hy hlen ?_
  rintro ⟨p, l, e, R, s, m, args, below, meth, c, A, a, z, Q⟩ C ⟨s', args', below', h1, h2, h3, h4, h5⟩
  refine h _ C ?_
  intro r S' pc lv hd hK H locs ls hP hD hS hl
  have hr : meth.sig.returnType = some .int := h3
  have hQ : Q = ((0, 0), MQ below' (va_Qi K (tq_Post a A) A) args' s' 0 0 A) := h4
  have e1 : s = s' := h1
  have e2 : args = args' := h2
  have e3 : below = below' := h5
  subst e1; subst e2; subst e3; subst hQ
  exact W.iret C.1 C.2.1 hr (fun t ht hW => ⟨⟨r, S', rfl, hK, by rw [tq_Post, ht]; exact ⟨hP, hD⟩⟩, hS.F ht⟩) hS.2.2 hd C.2.2.2.2.2.2.2.2
theorem tq_mkZ {K : Int32 → tq_St → Prop} (hy : plainName y.cls = true) (hlen : ∀ a z, (lg_sl (av a z)).length ≤ n) (h : ∀ X : tq_Cx, tq_C X cc n y.cls k → tq_Rz X cc n K → Go X n S 0 (lv_args 0 (av (tq_la X) (tq_zl X))) []) : tq_Mi y cc n (some .boolean) k av S K := by
  refine tq_mk (Qc := fun a z A => va_Qi K (tq_Post a A) A) hy hlen ?_
  rintro ⟨p, l, e, R, s, m, args, below, meth, c, A, a, z, Q⟩ C ⟨s', args', below', h1, h2, h3, h4, h5⟩
  refine h _ C ?_
  intro r S' pc lv hd h01 hK H locs ls hP hD hS hl
  have hr : meth.sig.returnType = some .boolean := h3
  have hQ : Q = ((0, 0), MQ below' (va_Qi K (tq_Post a A) A) args' s' 0 0 A) := h4
  have e1 : s = s' := h1
  have e2 : args = args' := h2
  have e3 : below = below' := h5
  subst e1; subst e2; subst e3; subst hQ
  exact W.zret C.1 C.2.1 hr (by rcases h01 with rfl | rfl <;> decide +kernel) (fun t ht hW => ⟨⟨r, S', rfl, hK, by rw [tq_Post, ht]; exact ⟨hP, hD⟩⟩, hS.F ht⟩) hS.2.2 hd C.2.2.2.2.2.2.2.2
theorem tq_mkL {K : Int64 → tq_St → Prop} (hy : plainName y.cls = true) (hlen : ∀ a z, (lg_sl (av a z)).length ≤ n) (h : ∀ X : tq_Cx, tq_C X cc n y.cls k → tq_Rl X cc n K → Go X n S 0 (lv_args 0 (av (tq_la X) (tq_zl X))) []) : tq_Ml y cc n (some .long) k av S K := by
  refine tq_mk (Qc := fun a z A => va_Ql K (tq_Post a A) A) hy hlen ?_
  rintro ⟨p, l, e, R, s, m, args, below, meth, c, A, a, z, Q⟩ C ⟨s', args', below', h1, h2, h3, h4, h5⟩
  refine h _ C ?_
  intro r S' pc lv hd hK H locs ls hP hD hS hl
  have hr : meth.sig.returnType = some .long := h3
  have hQ : Q = ((0, 0), MQ below' (va_Ql K (tq_Post a A) A) args' s' 0 0 A) := h4
  have e1 : s = s' := h1
  have e2 : args = args' := h2
  have e3 : below = below' := h5
  subst e1; subst e2; subst e3; subst hQ
  exact W.lret C.1 C.2.1 hr (fun t ht hW => ⟨⟨r, S', rfl, hK, by rw [tq_Post, ht]; exact ⟨hP, hD⟩⟩, hS.F ht⟩) hS.2.2 hd C.2.2.2.2.2.2.2.2
theorem tq_mkV {K : tq_St → Prop} (hy : plainName y.cls = true) (hlen : ∀ a z, (lg_sl (av a z)).length ≤ n) (h : ∀ X : tq_Cx, tq_C X cc n y.cls k → tq_Rv X cc n K → Go X n S 0 (lv_args 0 (av (tq_la X) (tq_zl X))) []) : tq_Mv y cc n none k av S K := by
  refine tq_mk (Qc := fun a z A => va_Qv K (tq_Post a A) A) hy hlen ?_
  rintro ⟨p, l, e, R, s, m, args, below, meth, c, A, a, z, Q⟩ C ⟨s', args', below', h1, h2, h3, h4, h5⟩
  refine h _ C ?_
  intro S' pc lv hd hK H locs ls hP hD hS hl
  have hr : meth.sig.returnType = none := h3
  have hQ : Q = ((0, 0), MQ below' (va_Qv K (tq_Post a A) A) args' s' 0 0 A) := h4
  have e1 : s = s' := h1
  have e2 : args = args' := h2
  have e3 : below = below' := h5
  subst e1; subst e2; subst e3; subst hQ
  exact W.vret C.1 C.2.1 hr (fun t ht hW => ⟨⟨S', rfl, hK, by rw [tq_Post, ht]; exact ⟨hP, hD⟩⟩, hS.F ht⟩) hS.2.2 hd C.2.2.2.2.2.2.2.2
end MK2
-- CALLS
/-- the words of a virtual call -/
def tq_Wv (own : String) (index : Nat) (Cn : String) (y : MethodName) (cc : ByteArray) (n : Nat) (ret : Option FieldType) (np : Nat) : Prop :=
  GoodIn tq_tbl (wsV own index Cn y (tq_ws y cc n ret)) ∧ y.cls = Cn ∧ y.cls ≠ "java/lang/invoke/MethodHandle" ∧ y.cls ≠ "java/lang/invoke/VarHandle" ∧ (parseMethodDescriptor y.desc).map (fun d => d.parameters.length) = some np
def tq_Wst (own : String) (index : Nat) (y : MethodName) (cc : ByteArray) (n : Nat) (ret : Option FieldType) (np : Nat) : Prop :=
  GoodIn tq_tbl (va_wsS own index y (tq_ws y cc n ret)) ∧ y.cls ≠ "java/lang/invoke/MethodHandle" ∧ y.cls ≠ "java/lang/invoke/VarHandle" ∧ (parseMethodDescriptor y.desc).map (fun d => d.parameters.length) = some np
theorem tq_g1 {w : Cond} (h : w ∈ lw_tbl) (hg : goodWord w = true) : w ∈ tq_tbl ∧ ((w.onTables && w.keeps) = true ∨ ∃ ty, w = .arrayClass ty) := ⟨tq_mem h hg, good_of_word hg⟩
theorem tq_gT : GoodIn tq_tbl tq_tbl := fun w h => ⟨h, good_of_word (List.mem_filter.mp h).2⟩
theorem tq_gC {w : Cond} {l : List Cond} (h : w ∈ lw_tbl) (hg : goodWord w = true) (t : GoodIn tq_tbl l) : GoodIn tq_tbl (w :: l) := fun v hv => by
  rcases List.mem_cons.mp hv with rfl | h2
  · exact tq_g1 h hg
  · exact t v h2
theorem tq_wv {own : String} {index : Nat} {Cn : String} {y : MethodName} {cc : ByteArray} {n np : Nat} {ret : Option FieldType} (h1 : Cond.methodLink own index y ∈ lw_tbl) (h2 : Cond.instanceMethod y ∈ lw_tbl) (h3 : Cond.selects Cn y y ∈ lw_tbl) (h4 : Cond.initialized Cn ∈ lw_tbl) (h5 : Cond.code y cc n ret ∈ lw_tbl) (hd : y.cls = Cn ∧ y.cls ≠ "java/lang/invoke/MethodHandle" ∧ y.cls ≠ "java/lang/invoke/VarHandle" ∧ (parseMethodDescriptor y.desc).map (fun d => d.parameters.length) = some np) : tq_Wv own index Cn y cc n ret np :=
  ⟨tq_gC h1 rfl (tq_gC h2 rfl (tq_gC h3 rfl (tq_gC h4 rfl (tq_gC h5 rfl tq_gT)))), hd⟩
theorem tq_wst {own : String} {index : Nat} {y : MethodName} {cc : ByteArray} {n np : Nat} {ret : Option FieldType} (h1 : Cond.methodLink own index y ∈ lw_tbl) (h2 : Cond.static y ∈ lw_tbl) (h4 : Cond.initialized y.cls ∈ lw_tbl) (h5 : Cond.code y cc n ret ∈ lw_tbl) (hd : y.cls ≠ "java/lang/invoke/MethodHandle" ∧ y.cls ≠ "java/lang/invoke/VarHandle" ∧ (parseMethodDescriptor y.desc).map (fun d => d.parameters.length) = some np) : tq_Wst own index y cc n ret np :=
  ⟨tq_gC h1 rfl (tq_gC h2 rfl (tq_gC h4 rfl (tq_gC h5 rfl tq_gT))), hd⟩
/-- the room of a call -/
def tq_rk (k kr n : Nat) : Bool := Nat.ble (k + 1) kr && Nat.ble (8 + (n + 11) + 100 * k) (100 * kr)
theorem tq_rk_ok {k kr n : Nat} (h : tq_rk k kr n = true) : k + 1 ≤ kr ∧ 8 + (n + 11) + 100 * k ≤ 100 * kr := by
  unfold tq_rk at h
  simp only [Bool.and_eq_true] at h
  exact ⟨Nat.le_of_ble_eq_true h.1, Nat.le_of_ble_eq_true h.2⟩
section CL
variable {X : tq_Cx} {cc : ByteArray} {nL : Nat} {own : String} {kr : Nat} {S : tq_St} {pc : Nat} {lv : List (Nat × Value)} {st st0 : List Value}
variable {y : MethodName} {cy : ByteArray} {n np k : Nat} {ret : Option FieldType} {av : tq_La → tq_Zl → List Value}
/-- the receiver of a virtual call -/
def tq_rec (X : tq_Cx) (S : tq_St) (b : Nat) (Cn : String) : Prop := match X with
  | (_, _, _, _, s, _, _, _, _, _, A, a, _, _) => ∀ (H : Heap) (locs : List Loc), va_P a.2.1 vwCl (tq_W a S) H → va_S A s.heap H locs → ∃ cellB : Cell, H[b]? = some cellB ∧ cellB.vm.isStatics = false ∧ s.vm.findClass Cn = some cellB.cls
theorem tq_rec_of (C : tq_C X cc nL own kr) {o ci : Nat} (hq : (o, 0) ∈ tq_cids) {fs : List Value} (hc : tq_gc (tq_la X) S o 0 = .inr (ci, fs)) {Cn : String} {T : u_T} {N : Nat} (hcl : vwCl[ci]? = some (Cn, T, N)) : tq_rec X S ((tq_la X).1 o 0) Cn := by
  obtain ⟨p, l, e, R, s, m, args, below, meth, c, A, a, z, Q⟩ := X
  intro H locs hP hS
  obtain ⟨q0, -, hq0⟩ := tq_at a S hq
  have hc : tq_gc a S o 0 = .inr (ci, fs) := hc
  rw [hc] at hq0
  exact va_recv C.2.2.2.2.2.1 hP hcl hq0
theorem go_cVi {K : Int32 → tq_St → Prop} (C : tq_C X cc nL own kr) {index b : Nat} {Cn : String} {As : List Value} (hw : tq_Wv own index Cn y cy n ret np) (hM : tq_Mi y cy n ret k av S K) (hrc : tq_rec X S b Cn) (hav : av (tq_la X) (tq_zl X) = .ref b :: As) (hst : st0 = As.reverse ++ .ref b :: st) (hn : As.length = np) (hrk : tq_rk k kr n = true) (hrm : Nat.ble ((st.map fun v => v.category).sum) 8 = true) (hd : decode cc pc = .ok (.invokevirtual index, 3)) (g : ∀ r S', K r S' → Go X nL S' (pc + 3) lv (.int r :: st)) : Go X nL S pc lv st0 := by
  obtain ⟨p, l, e, R, s, m, args, below, meth, c, A, a, z, Q⟩ := X
  intro H locs ls hP hD hS hl
  have hR := C.2.2.2.2.2.2.2.1
  have hav : av a z = .ref b :: As := hav
  have hM := hM l A a z
  rw [hav] at hM
  refine va_calli (va_runV (As := As) (rest := st) ⟨C.1, C.2.1, C.2.2.1, C.2.2.2.1, C.2.2.2.2.1⟩ hM (cwV np C.2.2.2.2.1 hw.1 rfl rfl rfl hw.2 ⟨Nat.le_trans (tq_rk_ok hrk).1 hR.1, Nat.le_trans (tq_rk_ok hrk).2 hR.2.1⟩) ⟨tq_blind, hrc H locs hP hS, fun U hU hW => ⟨rfl, by rw [hU]; exact hP, va_K.moved hW.alike C.2.2.2.2.2.1, hD, (C.2.2.2.2.2.2.1).to hS hU hW⟩⟩ rfl hn hl.1 hst (lv_room (Nat.le_of_ble_eq_true hrm)) hd ⟨hR.2.2.1, hR.2.2.2⟩) hS (fun q _ h => h) (fun q h => h) (fun r u t H1 locs1 ht hvm hw2 hB hz1 hk1 hS1 => ?_)
  obtain ⟨hP1, hD1⟩ := hB
  rw [ht] at hP1
  exact g r u hw2 H1 locs1 ls hP1 hD1 hS1 hl
theorem go_cVl {K : Int64 → tq_St → Prop} (C : tq_C X cc nL own kr) {index b : Nat} {Cn : String} {As : List Value} (hw : tq_Wv own index Cn y cy n ret np) (hM : tq_Ml y cy n ret k av S K) (hrc : tq_rec X S b Cn) (hav : av (tq_la X) (tq_zl X) = .ref b :: As) (hst : st0 = As.reverse ++ .ref b :: st) (hn : As.length = np) (hrk : tq_rk k kr n = true) (hrm : Nat.ble ((st.map fun v => v.category).sum) 8 = true) (hd : decode cc pc = .ok (.invokevirtual index, 3)) (g : ∀ r S', K r S' → Go X nL S' (pc + 3) lv (.long r :: st)) : Go X nL S pc lv st0 := by
  obtain ⟨p, l, e, R, s, m, args, below, meth, c, A, a, z, Q⟩ := X
  intro H locs ls hP hD hS hl
  have hR := C.2.2.2.2.2.2.2.1
  have hav : av a z = .ref b :: As := hav
  have hM := hM l A a z
  rw [hav] at hM
  refine va_calll (va_runV (As := As) (rest := st) ⟨C.1, C.2.1, C.2.2.1, C.2.2.2.1, C.2.2.2.2.1⟩ hM (cwV np C.2.2.2.2.1 hw.1 rfl rfl rfl hw.2 ⟨Nat.le_trans (tq_rk_ok hrk).1 hR.1, Nat.le_trans (tq_rk_ok hrk).2 hR.2.1⟩) ⟨tq_blind, hrc H locs hP hS, fun U hU hW => ⟨rfl, by rw [hU]; exact hP, va_K.moved hW.alike C.2.2.2.2.2.1, hD, (C.2.2.2.2.2.2.1).to hS hU hW⟩⟩ rfl hn hl.1 hst (lv_room (Nat.le_of_ble_eq_true hrm)) hd ⟨hR.2.2.1, hR.2.2.2⟩) hS (fun q _ h => h) (fun q h => h) (fun r u t H1 locs1 ht hvm hw2 hB hz1 hk1 hS1 => ?_)
  obtain ⟨hP1, hD1⟩ := hB
  rw [ht] at hP1
  exact g r u hw2 H1 locs1 ls hP1 hD1 hS1 hl
theorem go_cVv {K : tq_St → Prop} (C : tq_C X cc nL own kr) {index b : Nat} {Cn : String} {As : List Value} (hw : tq_Wv own index Cn y cy n ret np) (hM : tq_Mv y cy n ret k av S K) (hrc : tq_rec X S b Cn) (hav : av (tq_la X) (tq_zl X) = .ref b :: As) (hst : st0 = As.reverse ++ .ref b :: st) (hn : As.length = np) (hrk : tq_rk k kr n = true) (hrm : Nat.ble ((st.map fun v => v.category).sum) 8 = true) (hd : decode cc pc = .ok (.invokevirtual index, 3)) (g : ∀ S', K S' → Go X nL S' (pc + 3) lv st) : Go X nL S pc lv st0 := by
  obtain ⟨p, l, e, R, s, m, args, below, meth, c, A, a, z, Q⟩ := X
  intro H locs ls hP hD hS hl
  have hR := C.2.2.2.2.2.2.2.1
  have hav : av a z = .ref b :: As := hav
  have hM := hM l A a z
  rw [hav] at hM
  refine va_callv (va_runV (As := As) (rest := st) ⟨C.1, C.2.1, C.2.2.1, C.2.2.2.1, C.2.2.2.2.1⟩ hM (cwV np C.2.2.2.2.1 hw.1 rfl rfl rfl hw.2 ⟨Nat.le_trans (tq_rk_ok hrk).1 hR.1, Nat.le_trans (tq_rk_ok hrk).2 hR.2.1⟩) ⟨tq_blind, hrc H locs hP hS, fun U hU hW => ⟨rfl, by rw [hU]; exact hP, va_K.moved hW.alike C.2.2.2.2.2.1, hD, (C.2.2.2.2.2.2.1).to hS hU hW⟩⟩ rfl hn hl.1 hst (lv_room (Nat.le_of_ble_eq_true hrm)) hd ⟨hR.2.2.1, hR.2.2.2⟩) hS (fun q _ h => h) (fun q h => h) (fun u t H1 locs1 ht hvm hw2 hB hz1 hk1 hS1 => ?_)
  obtain ⟨hP1, hD1⟩ := hB
  rw [ht] at hP1
  exact g u hw2 H1 locs1 ls hP1 hD1 hS1 hl
end CL
end
section
-- STATIC CALLS, THE CONSTANT TEXTS
section CS
variable {X : tq_Cx} {cc : ByteArray} {nL : Nat} {own : String} {kr : Nat} {S : tq_St} {pc : Nat} {lv : List (Nat × Value)} {st st0 : List Value}
variable {y : MethodName} {cy : ByteArray} {n np k : Nat} {ret : Option FieldType} {av : tq_La → tq_Zl → List Value}
theorem go_cSi {K : Int32 → tq_St → Prop} (C : tq_C X cc nL own kr) {index : Nat} {As : List Value} (hw : tq_Wst own index y cy n ret np) (hM : tq_Mi y cy n ret k av S K) (hav : av (tq_la X) (tq_zl X) = As) (hst : st0 = As.reverse ++ st) (hn : As.length = np) (hrk : tq_rk k kr n = true) (hrm : Nat.ble ((st.map fun v => v.category).sum) 8 = true) (hd : decode cc pc = .ok (.invokestatic index, 3)) (g : ∀ r S', K r S' → Go X nL S' (pc + 3) lv (.int r :: st)) : Go X nL S pc lv st0 := by
  obtain ⟨p, l, e, R, s, m, args, below, meth, c, A, a, z, Q⟩ := X
  intro H locs ls hP hD hS hl
  have hR := C.2.2.2.2.2.2.2.1
  have hav : av a z = As := hav
  have hM := hM l A a z
  rw [hav] at hM
  refine va_calli (va_runS (As := As) (rest := st) ⟨C.1, C.2.1, C.2.2.1, C.2.2.2.1, C.2.2.2.2.1⟩ hM (va_cwS np C.2.2.2.2.1 hw.1 rfl rfl rfl hw.2 ⟨Nat.le_trans (tq_rk_ok hrk).1 hR.1, Nat.le_trans (tq_rk_ok hrk).2 hR.2.1⟩) ⟨tq_blind, fun U hU hW => ⟨rfl, by rw [hU]; exact hP, va_K.moved hW.alike C.2.2.2.2.2.1, hD, (C.2.2.2.2.2.2.1).to hS hU hW⟩⟩ rfl hn hl.1 hst (lv_room (Nat.le_of_ble_eq_true hrm)) hd ⟨hR.2.2.1, hR.2.2.2⟩) hS (fun q _ h => h) (fun q h => h) (fun r u t H1 locs1 ht hvm hw2 hB hz1 hk1 hS1 => ?_)
  obtain ⟨hP1, hD1⟩ := hB
  rw [ht] at hP1
  exact g r u hw2 H1 locs1 ls hP1 hD1 hS1 hl
theorem go_cSl {K : Int64 → tq_St → Prop} (C : tq_C X cc nL own kr) {index : Nat} {As : List Value} (hw : tq_Wst own index y cy n ret np) (hM : tq_Ml y cy n ret k av S K) (hav : av (tq_la X) (tq_zl X) = As) (hst : st0 = As.reverse ++ st) (hn : As.length = np) (hrk : tq_rk k kr n = true) (hrm : Nat.ble ((st.map fun v => v.category).sum) 8 = true) (hd : decode cc pc = .ok (.invokestatic index, 3)) (g : ∀ r S', K r S' → Go X nL S' (pc + 3) lv (.long r :: st)) : Go X nL S pc lv st0 := by
  obtain ⟨p, l, e, R, s, m, args, below, meth, c, A, a, z, Q⟩ := X
  intro H locs ls hP hD hS hl
  have hR := C.2.2.2.2.2.2.2.1
  have hav : av a z = As := hav
  have hM := hM l A a z
  rw [hav] at hM
  refine va_calll (va_runS (As := As) (rest := st) ⟨C.1, C.2.1, C.2.2.1, C.2.2.2.1, C.2.2.2.2.1⟩ hM (va_cwS np C.2.2.2.2.1 hw.1 rfl rfl rfl hw.2 ⟨Nat.le_trans (tq_rk_ok hrk).1 hR.1, Nat.le_trans (tq_rk_ok hrk).2 hR.2.1⟩) ⟨tq_blind, fun U hU hW => ⟨rfl, by rw [hU]; exact hP, va_K.moved hW.alike C.2.2.2.2.2.1, hD, (C.2.2.2.2.2.2.1).to hS hU hW⟩⟩ rfl hn hl.1 hst (lv_room (Nat.le_of_ble_eq_true hrm)) hd ⟨hR.2.2.1, hR.2.2.2⟩) hS (fun q _ h => h) (fun q h => h) (fun r u t H1 locs1 ht hvm hw2 hB hz1 hk1 hS1 => ?_)
  obtain ⟨hP1, hD1⟩ := hB
  rw [ht] at hP1
  exact g r u hw2 H1 locs1 ls hP1 hD1 hS1 hl
theorem go_cSv {K : tq_St → Prop} (C : tq_C X cc nL own kr) {index : Nat} {As : List Value} (hw : tq_Wst own index y cy n ret np) (hM : tq_Mv y cy n ret k av S K) (hav : av (tq_la X) (tq_zl X) = As) (hst : st0 = As.reverse ++ st) (hn : As.length = np) (hrk : tq_rk k kr n = true) (hrm : Nat.ble ((st.map fun v => v.category).sum) 8 = true) (hd : decode cc pc = .ok (.invokestatic index, 3)) (g : ∀  S', K  S' → Go X nL S' (pc + 3) lv (st)) : Go X nL S pc lv st0 := by
  obtain ⟨p, l, e, R, s, m, args, below, meth, c, A, a, z, Q⟩ := X
  intro H locs ls hP hD hS hl
  have hR := C.2.2.2.2.2.2.2.1
  have hav : av a z = As := hav
  have hM := hM l A a z
  rw [hav] at hM
  refine va_callv (va_runS (As := As) (rest := st) ⟨C.1, C.2.1, C.2.2.1, C.2.2.2.1, C.2.2.2.2.1⟩ hM (va_cwS np C.2.2.2.2.1 hw.1 rfl rfl rfl hw.2 ⟨Nat.le_trans (tq_rk_ok hrk).1 hR.1, Nat.le_trans (tq_rk_ok hrk).2 hR.2.1⟩) ⟨tq_blind, fun U hU hW => ⟨rfl, by rw [hU]; exact hP, va_K.moved hW.alike C.2.2.2.2.2.1, hD, (C.2.2.2.2.2.2.1).to hS hU hW⟩⟩ rfl hn hl.1 hst (lv_room (Nat.le_of_ble_eq_true hrm)) hd ⟨hR.2.2.1, hR.2.2.2⟩) hS (fun q _ h => h) (fun q h => h) (fun  u t H1 locs1 ht hvm hw2 hB hz1 hk1 hS1 => ?_)
  obtain ⟨hP1, hD1⟩ := hB
  rw [ht] at hP1
  exact g  u hw2 H1 locs1 ls hP1 hD1 hS1 hl
theorem go_cSr {K : Nat → tq_St → Prop} (C : tq_C X cc nL own kr) {index : Nat} {As : List Value} (hw : tq_Wst own index y cy n ret np) (hM : tq_Mr y cy n ret k av S K) (hav : av (tq_la X) (tq_zl X) = As) (hst : st0 = As.reverse ++ st) (hn : As.length = np) (hrk : tq_rk k kr n = true) (hrm : Nat.ble ((st.map fun v => v.category).sum) 8 = true) (hd : decode cc pc = .ok (.invokestatic index, 3)) (g : ∀ i S', K i S' → Go X nL S' (pc + 3) lv (.ref ((tq_zl X).2.1 i) :: st)) : Go X nL S pc lv st0 := by
  obtain ⟨p, l, e, R, s, m, args, below, meth, c, A, a, z, Q⟩ := X
  intro H locs ls hP hD hS hl
  have hR := C.2.2.2.2.2.2.2.1
  have hav : av a z = As := hav
  have hM := hM l A a z
  rw [hav] at hM
  refine va_callr (va_runS (As := As) (rest := st) ⟨C.1, C.2.1, C.2.2.1, C.2.2.2.1, C.2.2.2.2.1⟩ hM (va_cwS np C.2.2.2.2.1 hw.1 rfl rfl rfl hw.2 ⟨Nat.le_trans (tq_rk_ok hrk).1 hR.1, Nat.le_trans (tq_rk_ok hrk).2 hR.2.1⟩) ⟨tq_blind, fun U hU hW => ⟨rfl, by rw [hU]; exact hP, va_K.moved hW.alike C.2.2.2.2.2.1, hD, (C.2.2.2.2.2.2.1).to hS hU hW⟩⟩ rfl hn hl.1 hst (lv_room (Nat.le_of_ble_eq_true hrm)) hd ⟨hR.2.2.1, hR.2.2.2⟩) hS (fun q _ h => h) (fun q h => h) (fun u ra t H1 locs1 ht hvm hw2 hB hz1 hk1 hS1 => ?_)
  obtain ⟨hra, hP1, hD1⟩ := hB
  rw [ht] at hP1
  subst hra
  exact g u.1 u.2 hw2 H1 locs1 ls hP1 hD1 hS1 hl
theorem tq_mkR {K : Nat → tq_St → Prop} {C9 : String} (hy : plainName y.cls = true) (hlen : ∀ a z, (lg_sl (av a z)).length ≤ n) (h : ∀ X : tq_Cx, tq_C X cc n y.cls k → tq_Rr X cc n K → Go X n S 0 (lv_args 0 (av (tq_la X) (tq_zl X))) []) : tq_Mr y cc n (some (.object C9)) k av S K := by
  refine tq_mk (Qc := fun a z A => va_Qr (fun u : Nat × tq_St => K u.1 u.2) (fun u q t => q = z.2.1 u.1 ∧ tq_Post a A u.2 t) A) hy hlen ?_
  rintro ⟨p, l, e, R, s, m, args, below, meth, c, A, a, z, Q⟩ C ⟨s', args', below', h1, h2, h3, h4, h5⟩
  refine h _ C ?_
  intro r S' pc lv hd hK H locs ls hP hD hS hl
  have hr : meth.sig.returnType = some (.object C9) := h3
  have hQ : Q = ((0, 0), MQ below' (va_Qr (fun u : Nat × tq_St => K u.1 u.2) (fun u q t => q = z.2.1 u.1 ∧ tq_Post a A u.2 t) A) args' s' 0 0 A) := h4
  have e1 : s = s' := h1
  have e2 : args = args' := h2
  have e3 : below = below' := h5
  subst e1; subst e2; subst e3; subst hQ
  exact W.aret C.1 C.2.1 hr (Or.inl ⟨_, rfl⟩) (Or.inr ⟨_, rfl⟩) (fun t ht hW => ⟨⟨(r, S'), z.2.1 r, rfl, hK, rfl, by rw [tq_Post, ht]; exact ⟨hP, hD⟩⟩, hS.F ht⟩) hS.2.2 hd C.2.2.2.2.2.2.2.2
theorem go_ldcS (C : tq_C X cc nL RX5 kr) (i : Nat) (hi : i < 7) {index : Nat} (hx : (tq_txL.getD i (0, "")).1 = index) (hd : decode cc pc = .ok (.ldc index, 2)) (g : Go X nL S (pc + 2) lv (.ref ((tq_zl X).2.1 i) :: st)) : Go X nL S pc lv st := by
  obtain ⟨p, l, e, R, s, m, args, below, meth, c, A, a, z, Q⟩ := X
  subst hx
  intro H locs ls hP hD hS hl
  have hZ : tq_Z z A s s.heap := C.2.2.2.2.2.2.1
  exact va_ldcS C.1 C.2.1 C.2.2.2.1 (hZ.2.2.2.2.1 i hi) hd (g H locs ls hP hD hS hl)
theorem tq_recS (C : tq_C X cc nL own kr) {i : Nat} (hi : i < 7) : tq_rec X S ((tq_zl X).2.1 i) "java/lang/String" := by
  obtain ⟨p, l, e, R, s, m, args, below, meth, c, A, a, z, Q⟩ := X
  intro H locs hP hS
  have hZ : tq_Z z A s s.heap := C.2.2.2.2.2.2.1
  exact vk_recv hZ.2.2.2.1 hi hS
theorem go_strV (C : tq_C X cc nL own kr) {i : Nat} (hi : i < 7) {index : Nat} (hlink : Cond.fieldLink own index "java/lang/String" "value" "[B" ∈ tq_tbl) (hd : decode cc pc = .ok (.getfield index, 3)) (g : Go X nL S (pc + 3) lv (.ref ((tq_zl X).2.2.1 i) :: st)) : Go X nL S pc lv (.ref ((tq_zl X).2.1 i) :: st) := by
  obtain ⟨p, l, e, R, s, m, args, below, meth, c, A, a, z, Q⟩ := X
  intro H locs ls hP hD hS hl
  have hZ : tq_Z z A s s.heap := C.2.2.2.2.2.2.1
  exact vk_getf C.1 C.2.1 (hZ.2.2.2.1.1 i hi).2.2.1 hS C.2.2.2.1 (C.2.2.2.2.1 _ hlink) (fun _ h9 => h9) hd (g H locs ls hP hD hS hl)
theorem go_strC (C : tq_C X cc nL own kr) {i : Nat} (hi : i < 7) {index : Nat} (hlink : Cond.fieldLink own index "java/lang/String" "coder" "B" ∈ tq_tbl) (hd : decode cc pc = .ok (.getfield index, 3)) (g : Go X nL S (pc + 3) lv (.int 0 :: st)) : Go X nL S pc lv (.ref ((tq_zl X).2.1 i) :: st) := by
  obtain ⟨p, l, e, R, s, m, args, below, meth, c, A, a, z, Q⟩ := X
  intro H locs ls hP hD hS hl
  have hZ : tq_Z z A s s.heap := C.2.2.2.2.2.2.1
  exact vk_getf C.1 C.2.1 (hZ.2.2.2.1.1 i hi).2.1 hS C.2.2.2.1 (C.2.2.2.2.1 _ hlink) (fun _ h9 => h9) hd (g H locs ls hP hD hS hl)
theorem go_strK (C : tq_C X cc nL own kr) {index : Nat} (hlink : Cond.fieldLink own index "java/lang/String" "COMPACT_STRINGS" "Z" ∈ tq_tbl) (hd : decode cc pc = .ok (.getstatic index, 3)) (g : Go X nL S (pc + 3) lv (.int 1 :: st)) : Go X nL S pc lv st := by
  obtain ⟨p, l, e, R, s, m, args, below, meth, c, A, a, z, Q⟩ := X
  intro H locs ls hP hD hS hl
  have hZ : tq_Z z A s s.heap := C.2.2.2.2.2.2.1
  exact va_gets C.1 C.2.1 hZ.2.2.2.2.2.1 hS C.2.2.2.1 (C.2.2.2.2.1 _ hlink) (fun _ h9 => h9) hd (g H locs ls hP hD hS hl)
theorem go_strN (C : tq_C X cc nL own kr) {i : Nat} (hi : i < 7) (hd : decode cc pc = .ok (.arraylength, 1)) (g : Go X nL S (pc + 1) lv (.int (nI (tq_len.getD i 0)) :: st)) : Go X nL S pc lv (.ref ((tq_zl X).2.2.1 i) :: st) := by
  obtain ⟨p, l, e, R, s, m, args, below, meth, c, A, a, z, Q⟩ := X
  intro H locs ls hP hD hS hl
  have hZ : tq_Z z A s s.heap := C.2.2.2.2.2.2.1
  exact va_tlen C.1 C.2.1 (hZ.2.2.2.1.1 i hi).2.2.2 hS rfl hd (g H locs ls hP hD hS hl)
theorem go_strB (C : tq_C X cc nL own kr) {i : Nat} (hi : i < 7) {x : Int32} (hin : vp_in x (tq_len.getD i 0)) (hd : decode cc pc = .ok (.baload, 1)) (g : Go X nL S (pc + 1) lv (.int ((tq_byt.getD i []).getD x.toNatClampNeg 0) :: st)) : Go X nL S pc lv (.int x :: .ref ((tq_zl X).2.2.1 i) :: st) := by
  obtain ⟨p, l, e, R, s, m, args, below, meth, c, A, a, z, Q⟩ := X
  intro H locs ls hP hD hS hl
  have hZ : tq_Z z A s s.heap := C.2.2.2.2.2.2.1
  exact va_tb C.1 C.2.1 (hZ.2.2.2.1.1 i hi).2.2.2 hS hin rfl hd (g H locs ls hP hD hS hl)
theorem go_fmt (C : tq_C X cc nL own kr) {index : Nat} (hlink : Cond.fieldLink own index "jdk/internal/util/Preconditions" "SIOOBE_FORMATTER" "Ljava/util/function/BiFunction;" ∈ tq_tbl) (hd : decode cc pc = .ok (.getstatic index, 3)) (g : Go X nL S (pc + 3) lv (va_rf (tq_zl X).2.2.2 :: st)) : Go X nL S pc lv st := by
  obtain ⟨p, l, e, R, s, m, args, below, meth, c, A, a, z, Q⟩ := X
  intro H locs ls hP hD hS hl
  have hZ : tq_Z z A s s.heap := C.2.2.2.2.2.2.1
  exact va_gets C.1 C.2.1 hZ.2.2.2.2.2.2 hS C.2.2.2.1 (C.2.2.2.2.1 _ hlink) (fun _ h9 => h9) hd (g H locs ls hP hD hS hl)
end CS
end
section
-- SMALL ROWS
theorem go_nI {X : tq_Cx} {nL : Nat} {S : tq_St} {pc : Nat} {lv : List (Nat × Value)} {st : List Value} {x : Int32} (g : ∀ y : Int32, y = x → Go X nL S pc lv (.int y :: st)) : Go X nL S pc lv (.int x :: st) := g x rfl
theorem go_nL {X : tq_Cx} {nL : Nat} {S : tq_St} {pc : Nat} {lv : List (Nat × Value)} {st : List Value} {x : Int64} (g : ∀ y : Int64, y = x → Go X nL S pc lv (.long y :: st)) : Go X nL S pc lv (.long x :: st) := g x rfl
theorem tq_sw {x : Int32} (lo hi : Int) : (x.toInt < lo ∨ hi < x.toInt) ∨ (lo ≤ x.toInt ∧ x.toInt ≤ hi) := by omega
theorem tq_ofI {x y : Int32} (h : x.toInt = y.toInt) : x = y := Int32.toInt_inj.mp h
theorem tq_lt4 {x : Int32} (h : (0 : Int) ≤ x.toInt ∧ x.toInt ≤ 3) : x = 0 ∨ x = 1 ∨ x = 2 ∨ x = 3 := by
  rcases (by omega : x.toInt = 0 ∨ x.toInt = 1 ∨ x.toInt = 2 ∨ x.toInt = 3) with h | h | h | h
  · exact Or.inl (tq_ofI h)
  · exact Or.inr (Or.inl (tq_ofI h))
  · exact Or.inr (Or.inr (Or.inl (tq_ofI h)))
  · exact Or.inr (Or.inr (Or.inr (tq_ofI h)))
theorem tq_lt5 {x : Int32} (h : (0 : Int) ≤ x.toInt ∧ x.toInt ≤ 4) : x = 0 ∨ x = 1 ∨ x = 2 ∨ x = 3 ∨ x = 4 := by
  rcases (by omega : x.toInt = 0 ∨ x.toInt = 1 ∨ x.toInt = 2 ∨ x.toInt = 3 ∨ x.toInt = 4) with h | h | h | h | h
  · exact Or.inl (tq_ofI h)
  · exact Or.inr (Or.inl (tq_ofI h))
  · exact Or.inr (Or.inr (Or.inl (tq_ofI h)))
  · exact Or.inr (Or.inr (Or.inr (Or.inl (tq_ofI h))))
  · exact Or.inr (Or.inr (Or.inr (Or.inr (tq_ofI h))))
theorem tq_lt6 {x : Int32} (h : (0 : Int) ≤ x.toInt ∧ x.toInt ≤ 5) : x = 0 ∨ x = 1 ∨ x = 2 ∨ x = 3 ∨ x = 4 ∨ x = 5 := by
  rcases (by omega : x.toInt = 0 ∨ x.toInt = 1 ∨ x.toInt = 2 ∨ x.toInt = 3 ∨ x.toInt = 4 ∨ x.toInt = 5) with h | h | h | h | h | h
  · exact Or.inl (tq_ofI h)
  · exact Or.inr (Or.inl (tq_ofI h))
  · exact Or.inr (Or.inr (Or.inl (tq_ofI h)))
  · exact Or.inr (Or.inr (Or.inr (Or.inl (tq_ofI h))))
  · exact Or.inr (Or.inr (Or.inr (Or.inr (Or.inl (tq_ofI h)))))
  · exact Or.inr (Or.inr (Or.inr (Or.inr (Or.inr (tq_ofI h)))))
theorem tq_lt7 {x : Int32} (h : (0 : Int) ≤ x.toInt ∧ x.toInt ≤ 6) : x = 0 ∨ x = 1 ∨ x = 2 ∨ x = 3 ∨ x = 4 ∨ x = 5 ∨ x = 6 := by
  rcases (by omega : x.toInt = 0 ∨ x.toInt = 1 ∨ x.toInt = 2 ∨ x.toInt = 3 ∨ x.toInt = 4 ∨ x.toInt = 5 ∨ x.toInt = 6) with h | h | h | h | h | h | h
  · exact Or.inl (tq_ofI h)
  · exact Or.inr (Or.inl (tq_ofI h))
  · exact Or.inr (Or.inr (Or.inl (tq_ofI h)))
  · exact Or.inr (Or.inr (Or.inr (Or.inl (tq_ofI h))))
  · exact Or.inr (Or.inr (Or.inr (Or.inr (Or.inl (tq_ofI h)))))
  · exact Or.inr (Or.inr (Or.inr (Or.inr (Or.inr (Or.inl (tq_ofI h))))))
  · exact Or.inr (Or.inr (Or.inr (Or.inr (Or.inr (Or.inr (tq_ofI h))))))
theorem tq_lt40 {x : Int32} (h : (0 : Int) ≤ x.toInt ∧ x.toInt ≤ 39) : x = 0 ∨ x = 1 ∨ x = 2 ∨ x = 3 ∨ x = 4 ∨ x = 5 ∨ x = 6 ∨ x = 7 ∨ x = 8 ∨ x = 9 ∨ x = 10 ∨ x = 11 ∨ x = 12 ∨ x = 13 ∨ x = 14 ∨ x = 15 ∨ x = 16 ∨ x = 17 ∨ x = 18 ∨ x = 19 ∨ x = 20 ∨ x = 21 ∨ x = 22 ∨ x = 23 ∨ x = 24 ∨ x = 25 ∨ x = 26 ∨ x = 27 ∨ x = 28 ∨ x = 29 ∨ x = 30 ∨ x = 31 ∨ x = 32 ∨ x = 33 ∨ x = 34 ∨ x = 35 ∨ x = 36 ∨ x = 37 ∨ x = 38 ∨ x = 39 := by
  rcases (by omega : x.toInt = 0 ∨ x.toInt = 1 ∨ x.toInt = 2 ∨ x.toInt = 3 ∨ x.toInt = 4 ∨ x.toInt = 5 ∨ x.toInt = 6 ∨ x.toInt = 7 ∨ x.toInt = 8 ∨ x.toInt = 9 ∨ x.toInt = 10 ∨ x.toInt = 11 ∨ x.toInt = 12 ∨ x.toInt = 13 ∨ x.toInt = 14 ∨ x.toInt = 15 ∨ x.toInt = 16 ∨ x.toInt = 17 ∨ x.toInt = 18 ∨ x.toInt = 19 ∨ x.toInt = 20 ∨ x.toInt = 21 ∨ x.toInt = 22 ∨ x.toInt = 23 ∨ x.toInt = 24 ∨ x.toInt = 25 ∨ x.toInt = 26 ∨ x.toInt = 27 ∨ x.toInt = 28 ∨ x.toInt = 29 ∨ x.toInt = 30 ∨ x.toInt = 31 ∨ x.toInt = 32 ∨ x.toInt = 33 ∨ x.toInt = 34 ∨ x.toInt = 35 ∨ x.toInt = 36 ∨ x.toInt = 37 ∨ x.toInt = 38 ∨ x.toInt = 39) with h | h | h | h | h | h | h | h | h | h | h | h | h | h | h | h | h | h | h | h | h | h | h | h | h | h | h | h | h | h | h | h | h | h | h | h | h | h | h | h
  · exact Or.inl (tq_ofI h)
  · exact Or.inr (Or.inl (tq_ofI h))
  · exact Or.inr (Or.inr (Or.inl (tq_ofI h)))
  · exact Or.inr (Or.inr (Or.inr (Or.inl (tq_ofI h))))
  · exact Or.inr (Or.inr (Or.inr (Or.inr (Or.inl (tq_ofI h)))))
  · exact Or.inr (Or.inr (Or.inr (Or.inr (Or.inr (Or.inl (tq_ofI h))))))
  · exact Or.inr (Or.inr (Or.inr (Or.inr (Or.inr (Or.inr (Or.inl (tq_ofI h)))))))
  · exact Or.inr (Or.inr (Or.inr (Or.inr (Or.inr (Or.inr (Or.inr (Or.inl (tq_ofI h))))))))
  · exact Or.inr (Or.inr (Or.inr (Or.inr (Or.inr (Or.inr (Or.inr (Or.inr (Or.inl (tq_ofI h)))))))))
  · exact Or.inr (Or.inr (Or.inr (Or.inr (Or.inr (Or.inr (Or.inr (Or.inr (Or.inr (Or.inl (tq_ofI h))))))))))
  · exact Or.inr (Or.inr (Or.inr (Or.inr (Or.inr (Or.inr (Or.inr (Or.inr (Or.inr (Or.inr (Or.inl (tq_ofI h)))))))))))
  · exact Or.inr (Or.inr (Or.inr (Or.inr (Or.inr (Or.inr (Or.inr (Or.inr (Or.inr (Or.inr (Or.inr (Or.inl (tq_ofI h))))))))))))
  · exact Or.inr (Or.inr (Or.inr (Or.inr (Or.inr (Or.inr (Or.inr (Or.inr (Or.inr (Or.inr (Or.inr (Or.inr (Or.inl (tq_ofI h)))))))))))))
  · exact Or.inr (Or.inr (Or.inr (Or.inr (Or.inr (Or.inr (Or.inr (Or.inr (Or.inr (Or.inr (Or.inr (Or.inr (Or.inr (Or.inl (tq_ofI h))))))))))))))
  · exact Or.inr (Or.inr (Or.inr (Or.inr (Or.inr (Or.inr (Or.inr (Or.inr (Or.inr (Or.inr (Or.inr (Or.inr (Or.inr (Or.inr (Or.inl (tq_ofI h)))))))))))))))
  · exact Or.inr (Or.inr (Or.inr (Or.inr (Or.inr (Or.inr (Or.inr (Or.inr (Or.inr (Or.inr (Or.inr (Or.inr (Or.inr (Or.inr (Or.inr (Or.inl (tq_ofI h))))))))))))))))
  · exact Or.inr (Or.inr (Or.inr (Or.inr (Or.inr (Or.inr (Or.inr (Or.inr (Or.inr (Or.inr (Or.inr (Or.inr (Or.inr (Or.inr (Or.inr (Or.inr (Or.inl (tq_ofI h)))))))))))))))))
  · exact Or.inr (Or.inr (Or.inr (Or.inr (Or.inr (Or.inr (Or.inr (Or.inr (Or.inr (Or.inr (Or.inr (Or.inr (Or.inr (Or.inr (Or.inr (Or.inr (Or.inr (Or.inl (tq_ofI h))))))))))))))))))
  · exact Or.inr (Or.inr (Or.inr (Or.inr (Or.inr (Or.inr (Or.inr (Or.inr (Or.inr (Or.inr (Or.inr (Or.inr (Or.inr (Or.inr (Or.inr (Or.inr (Or.inr (Or.inr (Or.inl (tq_ofI h)))))))))))))))))))
  · exact Or.inr (Or.inr (Or.inr (Or.inr (Or.inr (Or.inr (Or.inr (Or.inr (Or.inr (Or.inr (Or.inr (Or.inr (Or.inr (Or.inr (Or.inr (Or.inr (Or.inr (Or.inr (Or.inr (Or.inl (tq_ofI h))))))))))))))))))))
  · exact Or.inr (Or.inr (Or.inr (Or.inr (Or.inr (Or.inr (Or.inr (Or.inr (Or.inr (Or.inr (Or.inr (Or.inr (Or.inr (Or.inr (Or.inr (Or.inr (Or.inr (Or.inr (Or.inr (Or.inr (Or.inl (tq_ofI h)))))))))))))))))))))
  · exact Or.inr (Or.inr (Or.inr (Or.inr (Or.inr (Or.inr (Or.inr (Or.inr (Or.inr (Or.inr (Or.inr (Or.inr (Or.inr (Or.inr (Or.inr (Or.inr (Or.inr (Or.inr (Or.inr (Or.inr (Or.inr (Or.inl (tq_ofI h))))))))))))))))))))))
  · exact Or.inr (Or.inr (Or.inr (Or.inr (Or.inr (Or.inr (Or.inr (Or.inr (Or.inr (Or.inr (Or.inr (Or.inr (Or.inr (Or.inr (Or.inr (Or.inr (Or.inr (Or.inr (Or.inr (Or.inr (Or.inr (Or.inr (Or.inl (tq_ofI h)))))))))))))))))))))))
  · exact Or.inr (Or.inr (Or.inr (Or.inr (Or.inr (Or.inr (Or.inr (Or.inr (Or.inr (Or.inr (Or.inr (Or.inr (Or.inr (Or.inr (Or.inr (Or.inr (Or.inr (Or.inr (Or.inr (Or.inr (Or.inr (Or.inr (Or.inr (Or.inl (tq_ofI h))))))))))))))))))))))))
  · exact Or.inr (Or.inr (Or.inr (Or.inr (Or.inr (Or.inr (Or.inr (Or.inr (Or.inr (Or.inr (Or.inr (Or.inr (Or.inr (Or.inr (Or.inr (Or.inr (Or.inr (Or.inr (Or.inr (Or.inr (Or.inr (Or.inr (Or.inr (Or.inr (Or.inl (tq_ofI h)))))))))))))))))))))))))
  · exact Or.inr (Or.inr (Or.inr (Or.inr (Or.inr (Or.inr (Or.inr (Or.inr (Or.inr (Or.inr (Or.inr (Or.inr (Or.inr (Or.inr (Or.inr (Or.inr (Or.inr (Or.inr (Or.inr (Or.inr (Or.inr (Or.inr (Or.inr (Or.inr (Or.inr (Or.inl (tq_ofI h))))))))))))))))))))))))))
  · exact Or.inr (Or.inr (Or.inr (Or.inr (Or.inr (Or.inr (Or.inr (Or.inr (Or.inr (Or.inr (Or.inr (Or.inr (Or.inr (Or.inr (Or.inr (Or.inr (Or.inr (Or.inr (Or.inr (Or.inr (Or.inr (Or.inr (Or.inr (Or.inr (Or.inr (Or.inr (Or.inl (tq_ofI h)))))))))))))))))))))))))))
  · exact Or.inr (Or.inr (Or.inr (Or.inr (Or.inr (Or.inr (Or.inr (Or.inr (Or.inr (Or.inr (Or.inr (Or.inr (Or.inr (Or.inr (Or.inr (Or.inr (Or.inr (Or.inr (Or.inr (Or.inr (Or.inr (Or.inr (Or.inr (Or.inr (Or.inr (Or.inr (Or.inr (Or.inl (tq_ofI h))))))))))))))))))))))))))))
  · exact Or.inr (Or.inr (Or.inr (Or.inr (Or.inr (Or.inr (Or.inr (Or.inr (Or.inr (Or.inr (Or.inr (Or.inr (Or.inr (Or.inr (Or.inr (Or.inr (Or.inr (Or.inr (Or.inr (Or.inr (Or.inr (Or.inr (Or.inr (Or.inr (Or.inr (Or.inr (Or.inr (Or.inr (Or.inl (tq_ofI h)))))))))))))))))))))))))))))
  · exact Or.inr (Or.inr (Or.inr (Or.inr (Or.inr (Or.inr (Or.inr (Or.inr (Or.inr (Or.inr (Or.inr (Or.inr (Or.inr (Or.inr (Or.inr (Or.inr (Or.inr (Or.inr (Or.inr (Or.inr (Or.inr (Or.inr (Or.inr (Or.inr (Or.inr (Or.inr (Or.inr (Or.inr (Or.inr (Or.inl (tq_ofI h))))))))))))))))))))))))))))))
  · exact Or.inr (Or.inr (Or.inr (Or.inr (Or.inr (Or.inr (Or.inr (Or.inr (Or.inr (Or.inr (Or.inr (Or.inr (Or.inr (Or.inr (Or.inr (Or.inr (Or.inr (Or.inr (Or.inr (Or.inr (Or.inr (Or.inr (Or.inr (Or.inr (Or.inr (Or.inr (Or.inr (Or.inr (Or.inr (Or.inr (Or.inl (tq_ofI h)))))))))))))))))))))))))))))))
  · exact Or.inr (Or.inr (Or.inr (Or.inr (Or.inr (Or.inr (Or.inr (Or.inr (Or.inr (Or.inr (Or.inr (Or.inr (Or.inr (Or.inr (Or.inr (Or.inr (Or.inr (Or.inr (Or.inr (Or.inr (Or.inr (Or.inr (Or.inr (Or.inr (Or.inr (Or.inr (Or.inr (Or.inr (Or.inr (Or.inr (Or.inr (Or.inl (tq_ofI h))))))))))))))))))))))))))))))))
  · exact Or.inr (Or.inr (Or.inr (Or.inr (Or.inr (Or.inr (Or.inr (Or.inr (Or.inr (Or.inr (Or.inr (Or.inr (Or.inr (Or.inr (Or.inr (Or.inr (Or.inr (Or.inr (Or.inr (Or.inr (Or.inr (Or.inr (Or.inr (Or.inr (Or.inr (Or.inr (Or.inr (Or.inr (Or.inr (Or.inr (Or.inr (Or.inr (Or.inl (tq_ofI h)))))))))))))))))))))))))))))))))
  · exact Or.inr (Or.inr (Or.inr (Or.inr (Or.inr (Or.inr (Or.inr (Or.inr (Or.inr (Or.inr (Or.inr (Or.inr (Or.inr (Or.inr (Or.inr (Or.inr (Or.inr (Or.inr (Or.inr (Or.inr (Or.inr (Or.inr (Or.inr (Or.inr (Or.inr (Or.inr (Or.inr (Or.inr (Or.inr (Or.inr (Or.inr (Or.inr (Or.inr (Or.inl (tq_ofI h))))))))))))))))))))))))))))))))))
  · exact Or.inr (Or.inr (Or.inr (Or.inr (Or.inr (Or.inr (Or.inr (Or.inr (Or.inr (Or.inr (Or.inr (Or.inr (Or.inr (Or.inr (Or.inr (Or.inr (Or.inr (Or.inr (Or.inr (Or.inr (Or.inr (Or.inr (Or.inr (Or.inr (Or.inr (Or.inr (Or.inr (Or.inr (Or.inr (Or.inr (Or.inr (Or.inr (Or.inr (Or.inr (Or.inl (tq_ofI h)))))))))))))))))))))))))))))))))))
  · exact Or.inr (Or.inr (Or.inr (Or.inr (Or.inr (Or.inr (Or.inr (Or.inr (Or.inr (Or.inr (Or.inr (Or.inr (Or.inr (Or.inr (Or.inr (Or.inr (Or.inr (Or.inr (Or.inr (Or.inr (Or.inr (Or.inr (Or.inr (Or.inr (Or.inr (Or.inr (Or.inr (Or.inr (Or.inr (Or.inr (Or.inr (Or.inr (Or.inr (Or.inr (Or.inr (Or.inl (tq_ofI h))))))))))))))))))))))))))))))))))))
  · exact Or.inr (Or.inr (Or.inr (Or.inr (Or.inr (Or.inr (Or.inr (Or.inr (Or.inr (Or.inr (Or.inr (Or.inr (Or.inr (Or.inr (Or.inr (Or.inr (Or.inr (Or.inr (Or.inr (Or.inr (Or.inr (Or.inr (Or.inr (Or.inr (Or.inr (Or.inr (Or.inr (Or.inr (Or.inr (Or.inr (Or.inr (Or.inr (Or.inr (Or.inr (Or.inr (Or.inr (Or.inl (tq_ofI h)))))))))))))))))))))))))))))))))))))
  · exact Or.inr (Or.inr (Or.inr (Or.inr (Or.inr (Or.inr (Or.inr (Or.inr (Or.inr (Or.inr (Or.inr (Or.inr (Or.inr (Or.inr (Or.inr (Or.inr (Or.inr (Or.inr (Or.inr (Or.inr (Or.inr (Or.inr (Or.inr (Or.inr (Or.inr (Or.inr (Or.inr (Or.inr (Or.inr (Or.inr (Or.inr (Or.inr (Or.inr (Or.inr (Or.inr (Or.inr (Or.inr (Or.inl (tq_ofI h))))))))))))))))))))))))))))))))))))))
  · exact Or.inr (Or.inr (Or.inr (Or.inr (Or.inr (Or.inr (Or.inr (Or.inr (Or.inr (Or.inr (Or.inr (Or.inr (Or.inr (Or.inr (Or.inr (Or.inr (Or.inr (Or.inr (Or.inr (Or.inr (Or.inr (Or.inr (Or.inr (Or.inr (Or.inr (Or.inr (Or.inr (Or.inr (Or.inr (Or.inr (Or.inr (Or.inr (Or.inr (Or.inr (Or.inr (Or.inr (Or.inr (Or.inr (Or.inl (tq_ofI h)))))))))))))))))))))))))))))))))))))))
  · exact Or.inr (Or.inr (Or.inr (Or.inr (Or.inr (Or.inr (Or.inr (Or.inr (Or.inr (Or.inr (Or.inr (Or.inr (Or.inr (Or.inr (Or.inr (Or.inr (Or.inr (Or.inr (Or.inr (Or.inr (Or.inr (Or.inr (Or.inr (Or.inr (Or.inr (Or.inr (Or.inr (Or.inr (Or.inr (Or.inr (Or.inr (Or.inr (Or.inr (Or.inr (Or.inr (Or.inr (Or.inr (Or.inr (Or.inr (tq_ofI h)))))))))))))))))))))))))))))))))))))))
theorem tq_le {i : Int32} {n b : Nat} (h : vp_in i n) (hb : b + n ≤ 19) : b + i.toNatClampNeg < 19 := by
  have h1 : i.toNatClampNeg < n := Nat.not_le.mp fun q => h (Or.inr q)
  omega
theorem tq_ls {i : Int32} (h : vp_in i 4) : 23 ≤ 23 + i.toNatClampNeg ∧ 23 + i.toNatClampNeg < 27 := by
  have h1 : i.toNatClampNeg < 4 := Nat.not_le.mp fun q => h (Or.inr q)
  omega
theorem tq_rk_s {k n : Nat} (h : n ≤ 81) : tq_rk k (k + 1) n = true := by
  unfold tq_rk
  simp only [Bool.and_eq_true, Nat.ble_eq]
  omega
theorem tq_rk_d {k kr d n : Nat} (h : k + 1 ≤ kr) (hn : n ≤ 81) : tq_rk k (d + kr) n = true := by
  unfold tq_rk
  simp only [Bool.and_eq_true, Nat.ble_eq]
  omega
section MO
variable {X : tq_Cx} {cc : ByteArray} {nL : Nat} {own : String} {kr : Nat} {S : tq_St} {pc : Nat} {lv : List (Nat × Value)} {st : List Value}
theorem go_alen (C : tq_C X cc nL own kr) {o r t : Nat} {x : vp_A} {ty : FieldType} (hq : (o, r) ∈ tq_cids) (hc : tq_gc (tq_la X) S o r = .inl ((tq_la X).2.2 t, x)) (ht : (tq_ty (tq_la X))[t]? = some ((tq_la X).2.2 t, ty)) {v : Int32} (hv : Int32.ofNat x.1 = v) (hd : decode cc pc = .ok (.arraylength, 1)) (g : Go X nL S (pc + 1) lv (.int v :: st)) : Go X nL S pc lv (.ref ((tq_la X).1 o r) :: st) := by
  obtain ⟨p, l, e, R, s, m, args, below, meth, c, A, a, z, Q⟩ := X
  intro H locs ls hP hD hS hl
  obtain ⟨q0, -, hq0⟩ := tq_at a S hq
  have hc : tq_gc a S o r = _ := hc
  rw [hc] at hq0
  exact va_alen C.1 C.2.1 C.2.2.2.2.2.1 hP q0 t hq0 ht hv hd (g H locs ls hP hD hS hl)
end MO
def tq_Rn (ty : FieldType) (X : tq_Cx) (cc : ByteArray) (nL : Nat) (K : Int32 → tq_St → Prop) : Prop := ∀ (r : Int32) (S : tq_St) (pc : Nat) (lv : List (Nat × Value)), decode cc pc = .ok (.ireturn, 1) → narrow ty (.int r) = .int r → K r S → Go X nL S pc lv [.int r]
theorem tq_mkN {y : MethodName} {cc : ByteArray} {n k : Nat} {av : tq_La → tq_Zl → List Value} {S : tq_St} {ty : FieldType} {K : Int32 → tq_St → Prop} (hy : plainName y.cls = true) (hlen : ∀ a z, (lg_sl (av a z)).length ≤ n) (h : ∀ X : tq_Cx, tq_C X cc n y.cls k → tq_Rn ty X cc n K → Go X n S 0 (lv_args 0 (av (tq_la X) (tq_zl X))) []) : tq_Mi y cc n (some ty) k av S K := by
  refine tq_mk (Qc := fun a z A => va_Qi K (tq_Post a A) A) hy hlen ?_
  rintro ⟨p, l, e, R, s, m, args, below, meth, c, A, a, z, Q⟩ C ⟨s', args', below', h1, h2, h3, h4, h5⟩
  refine h _ C ?_
  intro r S' pc lv hd h01 hK H locs ls hP hD hS hl
  have hr : meth.sig.returnType = some ty := h3
  have hQ : Q = ((0, 0), MQ below' (va_Qi K (tq_Post a A) A) args' s' 0 0 A) := h4
  have e1 : s = s' := h1
  have e2 : args = args' := h2
  have e3 : below = below' := h5
  subst e1; subst e2; subst e3; subst hQ
  exact W.zret C.1 C.2.1 hr h01 (fun t ht hW => ⟨⟨r, S', rfl, hK, by rw [tq_Post, ht]; exact ⟨hP, hD⟩⟩, hS.F ht⟩) hS.2.2 hd C.2.2.2.2.2.2.2.2
end
