-- what each store does to the cells
theorem gcx_ne0 (a : tq_La) (o : Nat) (I I' : Nat → Int32) (B : Nat → Nat → Int32) (w w' : Int64) (g : Nat → Int64) {r : Nat} (hr : r ≠ 0) : gcx a o I B w g r = gcx a o I' B w' g r := by
  obtain ⟨k, rfl⟩ : ∃ k, r = k + 1 := ⟨r - 1, by omega⟩
  unfold gcx
  by_cases h : o < 19
  · rw [if_pos h, if_pos h]; unfold gcE; split <;> simp_all
  · rw [if_neg h, if_neg h]
    split
    · unfold gcT; rfl
    · unfold gcG; split <;> simp_all
    · unfold gcR; split <;> simp_all
    · unfold gcC; split <;> simp_all
    · unfold gcQ; split <;> simp_all
    · unfold gcM; split <;> simp_all
    · unfold gcS; rfl
theorem tq_gcI (a : tq_La) (S : tq_St) (o k : Nat) (v : Int32) : ∀ o' r', (o', r') ∈ tq_cids → ¬ (o' = o ∧ r' = 0) → tq_gc a (sI S o k v) o' r' = tq_gc a S o' r' := by
  intro o' r' hm h
  unfold tq_gc sI
  by_cases ho : o' = o
  · subst ho
    exact gcx_ne0 a o' _ _ _ _ _ _ (fun hr => h ⟨rfl, hr⟩)
  · simp only [if_neg ho]
theorem tq_gcW (a : tq_La) (S : tq_St) (v : Int64) : ∀ o' r', (o', r') ∈ tq_cids → ¬ (o' = 22 ∧ r' = 0) → tq_gc a (sW S v) o' r' = tq_gc a S o' r' := by
  intro o' r' hm h
  unfold tq_gc sW
  by_cases hr : r' = 0
  · subst hr
    have ho : o' ≠ 22 := fun e => h ⟨e, rfl⟩
    unfold gcx
    by_cases h1 : o' < 19
    · rw [if_pos h1, if_pos h1]
    · rw [if_neg h1, if_neg h1]
      split <;> simp_all
  · exact gcx_ne0 a o' _ _ _ _ _ _ hr
/-- the cell of an array depends on that array alone -/
def tq_arr (o k : Nat) : Prop := ∀ (a : tq_La) (I : Nat → Int32) (B : Nat → Nat → Int32) (f : Nat → Int32) (w : Int64) (g : Nat → Int64) (r : Nat), (o, r) ∈ tq_cids → r ≠ k + 1 → gcx a o I (fun k' => if k' = k then f else B k') w g r = gcx a o I B w g r
theorem tq_gcA (a : tq_La) (S : tq_St) {o k : Nat} (hk : tq_arr o k) (f : Nat → Int32) : ∀ o' r', (o', r') ∈ tq_cids → ¬ (o' = o ∧ r' = k + 1) → tq_gc a (sC S o k f) o' r' = tq_gc a S o' r' := by
  intro o' r' hm h
  unfold tq_gc sC
  by_cases ho : o' = o
  · subst ho
    simp only [if_true]
    exact hk a _ _ f _ _ r' hm (fun hr => h ⟨rfl, hr⟩)
  · simp only [if_neg ho]
theorem tq_gcG (a : tq_La) (S : tq_St) (i : Nat) (v : Int64) : ∀ o' r', (o', r') ∈ tq_cids → ¬ (o' = 22 ∧ r' = 2) → tq_gc a (sG S i v) o' r' = tq_gc a S o' r' := by
  intro o' r' hm h
  unfold tq_gc sG gcx
  by_cases h1 : o' < 19
  · rw [if_pos h1, if_pos h1]
  · rw [if_neg h1, if_neg h1]
    split
    · rfl
    · rfl
    · rfl
    · unfold gcC
      have hr : r' ≠ 2 := fun e => h ⟨rfl, e⟩
      have hr3 : r' < 3 := by
        have : ∀ q ∈ tq_cids, q.1 = 22 → q.2 < 3 := by decide +kernel
        exact this _ hm rfl
      have h01 : r' = 0 ∨ r' = 1 := by omega
      rcases h01 with rfl | rfl <;> rfl
    · rfl
    · rfl
    · rfl
theorem gcx_E (a : tq_La) {o : Nat} (h : o < 19) (I : Nat → Int32) (B : Nat → Nat → Int32) (w : Int64) (g : Nat → Int64) (r : Nat) : gcx a o I B w g r = gcE a o I B r := by unfold gcx; rw [if_pos h]
theorem gcx_S (a : tq_La) {o : Nat} (h : 23 ≤ o ∧ o < 27) (I : Nat → Int32) (B : Nat → Nat → Int32) (w : Int64) (g : Nat → Int64) (r : Nat) : gcx a o I B w g r = gcS a o I B r := by
  unfold gcx
  rw [if_neg (by omega)]
  have h1 : o = 23 ∨ o = 24 ∨ o = 25 ∨ o = 26 := by omega
  rcases h1 with rfl | rfl | rfl | rfl <;> rfl
theorem tq_arrE {o k : Nat} (h : o < 19) : tq_arr o k := by
  intro a I B f w g r hm hr
  rw [gcx_E a h, gcx_E a h]
  unfold gcE
  split
  · rfl
  · rename_i h4
    have hk : ¬ 3 = k := by omega
    simp only [if_neg hk]
  · rename_i j h4
    have hk : ¬ j = k := by omega
    simp only [if_neg hk]
theorem tq_arrS {o : Nat} (h : 23 ≤ o ∧ o < 27) : tq_arr o 0 := by
  intro a I B f w g r hm hr
  rw [gcx_S a h, gcx_S a h]
  unfold gcS
  have hr2 : r < 2 := by
    have h9 : ∀ q ∈ tq_cids, 23 ≤ q.1 → q.1 < 27 → q.2 < 2 := by decide +kernel
    exact h9 _ hm h.1 h.2
  have h01 : r = 0 := by omega
  subst h01
  rfl
/-- for an object whose number is known -/
def tq_arrD (o k : Nat) : Prop := ∀ r ∈ ((tq_cids.filter (fun q => q.1 == o)).map (fun q => q.2)), r ≠ k + 1 → ∀ (a : tq_La) (I : Nat → Int32) (B : Nat → Nat → Int32) (f : Nat → Int32) (w : Int64) (g : Nat → Int64), gcx a o I (fun k' => if k' = k then f else B k') w g r = gcx a o I B w g r
theorem tq_arr_of {o k : Nat} (h : tq_arrD o k) : tq_arr o k := by
  intro a I B f w g r hm hr
  exact h r (List.mem_map.mpr ⟨(o, r), List.mem_filter.mpr ⟨hm, by simp⟩, rfl⟩) hr a I B f w g
theorem tq_all1 {P : Nat → Prop} {x : Nat} {l : List Nat} (h : P x) (t : ∀ r ∈ l, P r) : ∀ r ∈ x :: l, P r := fun r hr => by
  rcases List.mem_cons.mp hr with rfl | h2
  · exact h
  · exact t r h2
theorem tq_arr19_0 : tq_arr 19 0 := tq_arr_of (by
  unfold tq_arrD
  rw [show (tq_cids.filter (fun q => q.1 == 19)).map (fun q => q.2) = [0, 1] by decide +kernel]
  intro r hr hk a I B f w g
  simp only [List.mem_cons, List.not_mem_nil, or_false] at hr
  rcases hr with rfl | rfl <;> first | rfl | exact absurd rfl hk)
theorem tq_arr20_0 : tq_arr 20 0 := tq_arr_of (by
  unfold tq_arrD
  rw [show (tq_cids.filter (fun q => q.1 == 20)).map (fun q => q.2) = [0, 1, 2] by decide +kernel]
  intro r hr hk a I B f w g
  simp only [List.mem_cons, List.not_mem_nil, or_false] at hr
  rcases hr with rfl | rfl | rfl <;> first | rfl | exact absurd rfl hk)
theorem tq_arr20_1 : tq_arr 20 1 := tq_arr_of (by
  unfold tq_arrD
  rw [show (tq_cids.filter (fun q => q.1 == 20)).map (fun q => q.2) = [0, 1, 2] by decide +kernel]
  intro r hr hk a I B f w g
  simp only [List.mem_cons, List.not_mem_nil, or_false] at hr
  rcases hr with rfl | rfl | rfl <;> first | rfl | exact absurd rfl hk)
theorem tq_arr21_1 : tq_arr 21 1 := tq_arr_of (by
  unfold tq_arrD
  rw [show (tq_cids.filter (fun q => q.1 == 21)).map (fun q => q.2) = [0, 1, 2, 3] by decide +kernel]
  intro r hr hk a I B f w g
  simp only [List.mem_cons, List.not_mem_nil, or_false] at hr
  rcases hr with rfl | rfl | rfl | rfl <;> first | rfl | exact absurd rfl hk)
theorem tq_arr21_2 : tq_arr 21 2 := tq_arr_of (by
  unfold tq_arrD
  rw [show (tq_cids.filter (fun q => q.1 == 21)).map (fun q => q.2) = [0, 1, 2, 3] by decide +kernel]
  intro r hr hk a I B f w g
  simp only [List.mem_cons, List.not_mem_nil, or_false] at hr
  rcases hr with rfl | rfl | rfl | rfl <;> first | rfl | exact absurd rfl hk)
theorem tq_arr27_7 : tq_arr 27 7 := tq_arr_of (by
  unfold tq_arrD
  rw [show (tq_cids.filter (fun q => q.1 == 27)).map (fun q => q.2) = [0, 7, 8, 9, 10] by decide +kernel]
  intro r hr hk a I B f w g
  simp only [List.mem_cons, List.not_mem_nil, or_false] at hr
  rcases hr with rfl | rfl | rfl | rfl | rfl <;> first | rfl | exact absurd rfl hk)
theorem tq_arr27_9 : tq_arr 27 9 := tq_arr_of (by
  unfold tq_arrD
  rw [show (tq_cids.filter (fun q => q.1 == 27)).map (fun q => q.2) = [0, 7, 8, 9, 10] by decide +kernel]
  intro r hr hk a I B f w g
  simp only [List.mem_cons, List.not_mem_nil, or_false] at hr
  rcases hr with rfl | rfl | rfl | rfl | rfl <;> first | rfl | exact absurd rfl hk)
theorem tq_arr28_0 : tq_arr 28 0 := tq_arr_of (by
  unfold tq_arrD
  rw [show (tq_cids.filter (fun q => q.1 == 28)).map (fun q => q.2) = [0, 1, 2, 4, 8, 17, 18, 22, 24, 25, 26, 27, 28] by decide +kernel]
  intro r hr hk a I B f w g
  simp only [List.mem_cons, List.not_mem_nil, or_false] at hr
  rcases hr with rfl | rfl | rfl | rfl | rfl | rfl | rfl | rfl | rfl | rfl | rfl | rfl | rfl <;> first | rfl | exact absurd rfl hk)
theorem tq_arr28_1 : tq_arr 28 1 := tq_arr_of (by
  unfold tq_arrD
  rw [show (tq_cids.filter (fun q => q.1 == 28)).map (fun q => q.2) = [0, 1, 2, 4, 8, 17, 18, 22, 24, 25, 26, 27, 28] by decide +kernel]
  intro r hr hk a I B f w g
  simp only [List.mem_cons, List.not_mem_nil, or_false] at hr
  rcases hr with rfl | rfl | rfl | rfl | rfl | rfl | rfl | rfl | rfl | rfl | rfl | rfl | rfl <;> first | rfl | exact absurd rfl hk)
theorem tq_arr28_3 : tq_arr 28 3 := tq_arr_of (by
  unfold tq_arrD
  rw [show (tq_cids.filter (fun q => q.1 == 28)).map (fun q => q.2) = [0, 1, 2, 4, 8, 17, 18, 22, 24, 25, 26, 27, 28] by decide +kernel]
  intro r hr hk a I B f w g
  simp only [List.mem_cons, List.not_mem_nil, or_false] at hr
  rcases hr with rfl | rfl | rfl | rfl | rfl | rfl | rfl | rfl | rfl | rfl | rfl | rfl | rfl <;> first | rfl | exact absurd rfl hk)
theorem tq_arr28_7 : tq_arr 28 7 := tq_arr_of (by
  unfold tq_arrD
  rw [show (tq_cids.filter (fun q => q.1 == 28)).map (fun q => q.2) = [0, 1, 2, 4, 8, 17, 18, 22, 24, 25, 26, 27, 28] by decide +kernel]
  intro r hr hk a I B f w g
  simp only [List.mem_cons, List.not_mem_nil, or_false] at hr
  rcases hr with rfl | rfl | rfl | rfl | rfl | rfl | rfl | rfl | rfl | rfl | rfl | rfl | rfl <;> first | rfl | exact absurd rfl hk)
theorem tq_arr28_16 : tq_arr 28 16 := tq_arr_of (by
  unfold tq_arrD
  rw [show (tq_cids.filter (fun q => q.1 == 28)).map (fun q => q.2) = [0, 1, 2, 4, 8, 17, 18, 22, 24, 25, 26, 27, 28] by decide +kernel]
  intro r hr hk a I B f w g
  simp only [List.mem_cons, List.not_mem_nil, or_false] at hr
  rcases hr with rfl | rfl | rfl | rfl | rfl | rfl | rfl | rfl | rfl | rfl | rfl | rfl | rfl <;> first | rfl | exact absurd rfl hk)
theorem tq_arr28_17 : tq_arr 28 17 := tq_arr_of (by
  unfold tq_arrD
  rw [show (tq_cids.filter (fun q => q.1 == 28)).map (fun q => q.2) = [0, 1, 2, 4, 8, 17, 18, 22, 24, 25, 26, 27, 28] by decide +kernel]
  intro r hr hk a I B f w g
  simp only [List.mem_cons, List.not_mem_nil, or_false] at hr
  rcases hr with rfl | rfl | rfl | rfl | rfl | rfl | rfl | rfl | rfl | rfl | rfl | rfl | rfl <;> first | rfl | exact absurd rfl hk)
theorem tq_arr28_21 : tq_arr 28 21 := tq_arr_of (by
  unfold tq_arrD
  rw [show (tq_cids.filter (fun q => q.1 == 28)).map (fun q => q.2) = [0, 1, 2, 4, 8, 17, 18, 22, 24, 25, 26, 27, 28] by decide +kernel]
  intro r hr hk a I B f w g
  simp only [List.mem_cons, List.not_mem_nil, or_false] at hr
  rcases hr with rfl | rfl | rfl | rfl | rfl | rfl | rfl | rfl | rfl | rfl | rfl | rfl | rfl <;> first | rfl | exact absurd rfl hk)
theorem tq_arr28_23 : tq_arr 28 23 := tq_arr_of (by
  unfold tq_arrD
  rw [show (tq_cids.filter (fun q => q.1 == 28)).map (fun q => q.2) = [0, 1, 2, 4, 8, 17, 18, 22, 24, 25, 26, 27, 28] by decide +kernel]
  intro r hr hk a I B f w g
  simp only [List.mem_cons, List.not_mem_nil, or_false] at hr
  rcases hr with rfl | rfl | rfl | rfl | rfl | rfl | rfl | rfl | rfl | rfl | rfl | rfl | rfl <;> first | rfl | exact absurd rfl hk)
theorem tq_arr28_24 : tq_arr 28 24 := tq_arr_of (by
  unfold tq_arrD
  rw [show (tq_cids.filter (fun q => q.1 == 28)).map (fun q => q.2) = [0, 1, 2, 4, 8, 17, 18, 22, 24, 25, 26, 27, 28] by decide +kernel]
  intro r hr hk a I B f w g
  simp only [List.mem_cons, List.not_mem_nil, or_false] at hr
  rcases hr with rfl | rfl | rfl | rfl | rfl | rfl | rfl | rfl | rfl | rfl | rfl | rfl | rfl <;> first | rfl | exact absurd rfl hk)
theorem tq_arr28_25 : tq_arr 28 25 := tq_arr_of (by
  unfold tq_arrD
  rw [show (tq_cids.filter (fun q => q.1 == 28)).map (fun q => q.2) = [0, 1, 2, 4, 8, 17, 18, 22, 24, 25, 26, 27, 28] by decide +kernel]
  intro r hr hk a I B f w g
  simp only [List.mem_cons, List.not_mem_nil, or_false] at hr
  rcases hr with rfl | rfl | rfl | rfl | rfl | rfl | rfl | rfl | rfl | rfl | rfl | rfl | rfl <;> first | rfl | exact absurd rfl hk)
theorem tq_arr28_26 : tq_arr 28 26 := tq_arr_of (by
  unfold tq_arrD
  rw [show (tq_cids.filter (fun q => q.1 == 28)).map (fun q => q.2) = [0, 1, 2, 4, 8, 17, 18, 22, 24, 25, 26, 27, 28] by decide +kernel]
  intro r hr hk a I B f w g
  simp only [List.mem_cons, List.not_mem_nil, or_false] at hr
  rcases hr with rfl | rfl | rfl | rfl | rfl | rfl | rfl | rfl | rfl | rfl | rfl | rfl | rfl <;> first | rfl | exact absurd rfl hk)
theorem tq_arr28_27 : tq_arr 28 27 := tq_arr_of (by
  unfold tq_arrD
  rw [show (tq_cids.filter (fun q => q.1 == 28)).map (fun q => q.2) = [0, 1, 2, 4, 8, 17, 18, 22, 24, 25, 26, 27, 28] by decide +kernel]
  intro r hr hk a I B f w g
  simp only [List.mem_cons, List.not_mem_nil, or_false] at hr
  rcases hr with rfl | rfl | rfl | rfl | rfl | rfl | rfl | rfl | rfl | rfl | rfl | rfl | rfl <;> first | rfl | exact absurd rfl hk)
