section Q9
variable {S S0 : tq_St} {G : aQ} {K : Int32 → tq_St → Prop} {KV : tq_St → Prop}
-- THE TEXT (what is safe; what is told is free here)
/-- a draft: acts may be of nobody -/
def wfD (A : aE) : Prop := aN A ≤ 5 ∧ (∀ p, aK A p < 4) ∧ (∀ p, aS A p ≤ 40) ∧ (∀ p, aW A p ≤ 1000) ∧ aG A < 2 ^ aN A ∧ aM A ≤ 999 ∧ (1 ≤ aR A ∧ aR A ≤ 5) ∧ (1 ≤ aT A ∧ aT A ≤ 9) ∧ aC A ≤ 8 ∧ ∀ i, i < aC A → aA A i ≤ 6
/-- while it is read -/
def XT (S0 S : tq_St) (len : Nat) : Prop := (∀ o, o ≠ 19 → o ≠ 2 → S.1 o = S0.1 o ∧ S.2.1 o = S0.2.1 o) ∧ S.2.2 = S0.2.2 ∧ S.2.1 19 = S0.2.1 19 ∧ S.1 19 2 = nI len ∧ (∃ st pl, st ≤ pl ∧ pl ≤ len ∧ S.1 19 8 = nI st ∧ S.1 19 6 = nI pl) ∧ (∃ y, y ≤ 6 ∧ S.1 19 3 = nI y) ∧ ∃ A, wfD A ∧ RC S 2 A
theorem XT.dr {len : Nat} (h : XT S0 S len) {S' : tq_St} (f : Fr 2 S S') {A : aE} (hw : wfD A) (hR : RC S' 2 A) : XT S0 S' len := by
  obtain ⟨h1, h2, h3, h4, h5, h6, h7⟩ := h
  have f19 := f.1 19 (by decide)
  refine ⟨fun o a b => ⟨((f.1 o b).1).trans (h1 o a b).1, ((f.1 o b).2).trans (h1 o a b).2⟩, f.2.trans h2, f19.2.trans h3, by rw [f19.1]; exact h4, by rw [f19.1]; exact h5, by rw [f19.1]; exact h6, A, hw, hR⟩
/-- a number of the tape is written: not its length, its place or start, its fault -/
theorem XT.i {len : Nat} (h : XT S0 S len) {k : Nat} (hk : k ≠ 2 ∧ k ≠ 8 ∧ k ≠ 6 ∧ k ≠ 3) (v : Int32) : XT S0 (sI S 19 k v) len := by
  obtain ⟨h1, h2, h3, h4, ⟨st, pl, a1, a2, a3, a4⟩, ⟨y, b1, b2⟩, A, c1, c2⟩ := h
  refine ⟨fun o a b => ⟨(sI_1n S a).trans (h1 o a b).1, (h1 o a b).2⟩, h2, h3, ?_, ⟨st, pl, a1, a2, ?_, ?_⟩, ⟨y, b1, ?_⟩, A, c1, c2.fr ((Fr.rf (o := 19)).I _ _) (by decide)⟩
  · rw [sI_1, if_neg (by omega)]; exact h4
  · rw [sI_1, if_neg (by omega)]; exact a3
  · rw [sI_1, if_neg (by omega)]; exact a4
  · rw [sI_1, if_neg (by omega)]; exact b2
theorem XT.f {len : Nat} (h : XT S0 S len) {y : Nat} (hy : y ≤ 6) : XT S0 (sI S 19 3 (nI y)) len := by
  obtain ⟨h1, h2, h3, h4, ⟨st, pl, a1, a2, a3, a4⟩, -, A, c1, c2⟩ := h
  refine ⟨fun o a b => ⟨(sI_1n S a).trans (h1 o a b).1, (h1 o a b).2⟩, h2, h3, ?_, ⟨st, pl, a1, a2, ?_, ?_⟩, ⟨y, hy, ?_⟩, A, c1, c2.fr ((Fr.rf (o := 19)).I _ _) (by decide)⟩
  · rw [sI_1, if_neg (by decide)]; exact h4
  · rw [sI_1, if_neg (by decide)]; exact a3
  · rw [sI_1, if_neg (by decide)]; exact a4
  · rw [sI_1, if_pos rfl]
theorem XT.pl {len : Nat} (h : XT S0 S len) {st pl : Nat} (h8 : S.1 19 8 = nI st) (hs : st ≤ pl) (hp : pl ≤ len) : XT S0 (sI S 19 6 (nI pl)) len := by
  obtain ⟨h1, h2, h3, h4, -, ⟨y, b1, b2⟩, A, c1, c2⟩ := h
  refine ⟨fun o a b => ⟨(sI_1n S a).trans (h1 o a b).1, (h1 o a b).2⟩, h2, h3, ?_, ⟨st, pl, hs, hp, ?_, ?_⟩, ⟨y, b1, ?_⟩, A, c1, c2.fr ((Fr.rf (o := 19)).I _ _) (by decide)⟩
  · rw [sI_1, if_neg (by decide)]; exact h4
  · rw [sI_1, if_neg (by decide)]; exact h8
  · rw [sI_1, if_pos rfl]
  · rw [sI_1, if_neg (by decide)]; exact b2
theorem XT.st {len : Nat} (h : XT S0 S len) {pl : Nat} (h6 : S.1 19 6 = nI pl) (hp : pl ≤ len) : XT S0 (sI S 19 8 (nI pl)) len := by
  obtain ⟨h1, h2, h3, h4, -, ⟨y, b1, b2⟩, A, c1, c2⟩ := h
  refine ⟨fun o a b => ⟨(sI_1n S a).trans (h1 o a b).1, (h1 o a b).2⟩, h2, h3, ?_, ⟨pl, pl, Nat.le_refl _, hp, ?_, ?_⟩, ⟨y, b1, ?_⟩, A, c1, c2.fr ((Fr.rf (o := 19)).I _ _) (by decide)⟩
  · rw [sI_1, if_neg (by decide)]; exact h4
  · rw [sI_1, if_pos rfl]
  · rw [sI_1, if_neg (by decide)]; exact h6
  · rw [sI_1, if_neg (by decide)]; exact b2
theorem t_fail {len y : Nat} {x : Int32} (h : XT S0 S len) (hy : y ≤ 6) (hK : ∀ S', XT S0 S' len → KV S') : wp_X5_fail (nI y) x S KV := by
  unfold wp_X5_fail
  exact ⟨fun _ => hK S h, fun _ => nm_e (nm_e (hK _ ((h.f hy).i (by decide) x)))⟩
theorem t_sort {x : Int32} (hK : ∀ r, K r S) : wp_X5_sortOf x S K := by
  have h28 : wp_X5_sortOf_28 K x S := ⟨fun _ => hK _, fun _ => hK _⟩
  have h14 : wp_X5_sortOf_14 K x S := ⟨fun _ => h28, fun _ => ⟨fun _ => h28, fun _ => hK _⟩⟩
  exact ⟨fun _ => h14, fun _ => ⟨fun _ => h14, fun _ => hK _⟩⟩
theorem t_tok_215 {len : Nat} (h : XT S0 S len) (hK : ∀ S', XT S0 S' len → KV S') : wp_X5_takeToken_215 KV S := by
  unfold wp_X5_takeToken_215
  exact ⟨fun _ => hK S h, fun _ => t_fail (y := 1) h (by decide) hK⟩
theorem t_tok_189 {len : Nat} (h : XT S0 S len) (hK : ∀ S', XT S0 S' len → KV S') : wp_X5_takeToken_189 KV S := by
  unfold wp_X5_takeToken_189
  exact ⟨fun _ => t_tok_215 h hK, fun _ => ⟨fun _ => t_tok_215 h hK, fun _ => nm_e (t_tok_215 (h.i (by decide) _) hK)⟩⟩
theorem t_tok_104 {len st : Nat} {v : Int32} (hl : len ≤ 160) (hK : ∀ S', XT S0 S' len → KV S') : ∀ (m pl f : Nat) (S : tq_St), pl + m = len → m < f → st ≤ pl → XT S0 S len → S.1 19 6 = nI pl → S.1 19 8 = nI st → wp_X5_takeToken_104 KV f v S
  | 0, pl, f + 1, S, h1, h2, hs, h, h6, h8 => by
    unfold wp_X5_takeToken_104
    rw [h.2.2.2.1, h6]
    exact pk_le len pl (fun _ => t_tok_189 h hK) (fun z => absurd z (by omega))
  | m + 1, pl, f + 1, S, h1, h2, hs, h, h6, h8 => by
    unfold wp_X5_takeToken_104
    rw [h.2.2.2.1, h6]
    have hin : vp_in (nI pl) 160 := vp_in_nI (by omega) (by decide)
    have h152 : wp_X5_takeToken_152 KV (wp_X5_takeToken_104 KV f) v S := by
      unfold wp_X5_takeToken_152
      rw [h6]
      refine ⟨hin, nm_e (nm_r (by rw [sI_1, if_neg (by decide), h6, nI_1]) ?_)⟩
      have h' := (h.i (k := 9) (by decide) (S.1 19 9 * 10 + (S.2.1 19 0 (nI pl).toNatClampNeg - 48)))
      refine t_tok_104 (st := st) hl hK m (pl + 1) f _ (by omega) (by omega) (by omega) (h'.pl (st := st) ?_ (by omega) (by omega)) ?_ ?_
      · rw [sI_1, if_neg (by decide)]; exact h8
      · rw [sI_1, if_pos rfl]
      · rw [sI_1, if_neg (by decide), sI_1, if_neg (by decide)]; exact h8
    refine pk_le len pl (fun z => absurd z (by omega)) (fun _ => ⟨fun _ => ⟨fun _ => t_tok_189 h hK, fun _ => h152⟩, fun _ => ⟨hin, t_sort (fun r => ⟨fun _ => t_tok_189 h hK, fun _ => h152⟩)⟩⟩)
theorem t_tok_38 {len pl : Nat} (hl : len ≤ 160) (h : XT S0 S len) (h6 : S.1 19 6 = nI pl) (hp : pl ≤ len) (hK : ∀ S', XT S0 S' len → KV S') : wp_X5_takeToken_38 KV S := by
  have h79 : ∀ (r : Int32) (S' : tq_St), XT S0 S' len → S'.1 19 6 = nI pl → S'.1 19 8 = nI pl → wp_X5_takeToken_79 KV r S' := by
    intro r S' x1 x2 x3
    unfold wp_X5_takeToken_79
    refine nm_e ?_
    have y1 := x1.i (k := 7) (by decide) r
    have y2 : (sI S' 19 7 r).1 19 6 = nI pl := by rw [sI_1, if_neg (by decide)]; exact x2
    have y3 : (sI S' 19 7 r).1 19 8 = nI pl := by rw [sI_1, if_neg (by decide)]; exact x3
    have hgo := fun v : Int32 => t_tok_104 (v := v) hl hK (len - pl) pl 2000 _ (by omega) (by omega) (Nat.le_refl _) y1 y2 y3
    exact ⟨fun _ => hgo 1, fun _ => ⟨fun _ => hgo 0, fun _ => hgo 1⟩⟩
  unfold wp_X5_takeToken_38
  rw [h6]
  refine nm_e (nm_e ?_)
  have h1 := (h.st h6 hp).i (k := 9) (by decide) 0
  have e6 : (sI (sI S 19 8 (nI pl)) 19 9 0).1 19 6 = nI pl := by rw [sI_1, if_neg (by decide), sI_1, if_neg (by decide)]; exact h6
  have e8 : (sI (sI S 19 8 (nI pl)) 19 9 0).1 19 8 = nI pl := by rw [sI_1, if_neg (by decide), sI_1, if_pos rfl]
  rw [h1.2.2.2.1, e6]
  exact pk_le len pl (fun _ => h79 _ _ h1 e6 e8) (fun z => ⟨vp_in_nI (by omega) (by decide), t_sort (fun r => h79 r _ h1 e6 e8)⟩)
theorem t_tok_0 {len st : Nat} (hl : len ≤ 160) (hK : ∀ S', XT S0 S' len → KV S') : ∀ (m pl f : Nat) (S : tq_St), pl + m = len → m < f → st ≤ pl → XT S0 S len → S.1 19 6 = nI pl → S.1 19 8 = nI st → wp_X5_takeToken_0 KV f S
  | 0, pl, f + 1, S, h1, h2, hs, h, h6, h8 => by
    unfold wp_X5_takeToken_0
    rw [h.2.2.2.1, h6]
    exact pk_le len pl (fun _ => t_tok_38 hl h h6 (by omega) hK) (fun z => absurd z (by omega))
  | m + 1, pl, f + 1, S, h1, h2, hs, h, h6, h8 => by
    unfold wp_X5_takeToken_0
    rw [h.2.2.2.1, h6]
    refine pk_le len pl (fun z => absurd z (by omega)) (fun _ => ⟨vp_in_nI (by omega) (by decide), fun _ => t_tok_38 hl h h6 (by omega) hK, fun _ => nm_r (e' := sI S 19 6 (nI (pl + 1))) (by rw [nI_1]) ?_⟩)
    refine t_tok_0 (st := st) hl hK m (pl + 1) f _ (by omega) (by omega) (by omega) (h.pl h8 (by omega) (by omega)) ?_ ?_
    · rw [sI_1, if_pos rfl]
    · rw [sI_1, if_neg (by decide)]; exact h8
theorem t_tok {len : Nat} (hl : len ≤ 160) (h : XT S0 S len) (hK : ∀ S', XT S0 S' len → KV S') : wp_X5_takeToken S KV := by
  obtain ⟨st, pl, a1, a2, a3, a4⟩ := h.2.2.2.2.1
  exact t_tok_0 hl hK (len - pl) pl 2000 S (by omega) (by omega) a1 h a4 a3
-- NAMES
theorem t_len {o : Nat} (ho : o < 7) (hK : K (nI (tq_len.getD o 0)) S) : wp_J0_length_8abf5 o S K := by
  unfold wp_J0_length_8abf5 wp_J0_coder_7d493
  refine ⟨fun z => absurd z (by decide), fun _ => ⟨by decide +kernel, ?_⟩⟩
  show K (nI (tq_len.getD o 0) >>> ((0 : Int32) &&& 31)) S
  rw [sb_shr0]
  exact hK
theorem t_charAt {o j : Nat} (ho : o < 7) (hj : j < tq_len.getD o 0) (hl : tq_len.getD o 0 ≤ 5) (hK : K ((tq_byt.getD o []).getD j 0 &&& 255) S) : wp_J0_charAt_5068e o (nI j) S K := by
  unfold wp_J0_charAt_5068e wp_J0_isLatin1_aae02
  refine ⟨fun z => absurd z (by decide), fun _ => ⟨fun z => absurd rfl z, fun _ => ⟨fun z => absurd z (by decide), fun _ => ?_⟩⟩⟩
  unfold wp_J1_charAt_3b067 wp_J0_checkIndex_df160 wp_J3_checkIndex_8e157
  refine ⟨fun z => absurd z (nI_pos (by omega)), fun _ => pk_lt j (tq_len.getD o 0) (fun _ => ?_) (fun z => absurd z (by omega))⟩
  rw [nI_clamp (by omega), sc_c2]
  exact ⟨vp_in_nI hj (by omega), sc_nar _, sc_nar _, hK⟩
theorem tq_len5 : ∀ o, o < 7 → tq_len.getD o 0 ≤ 5 := by decide
theorem t_isName_20 {len o st : Nat} (ho : o < 7) (hl : len ≤ 160) (h8 : S.1 19 8 = nI st) (hs : st + tq_len.getD o 0 ≤ len) (hK : ∀ r, (r = 0 ∨ r = 1) → K r S) : ∀ (m i f : Nat), i + m = tq_len.getD o 0 → m < f → wp_X5_isName_20 o K f (nI i) S
  | 0, i, f + 1, h1, h2 => by
    have h5 := tq_len5 o ho
    unfold wp_X5_isName_20
    exact t_len ho (pk_le (tq_len.getD o 0) i (fun _ => hK 1 (Or.inr rfl)) (fun z => absurd z (by omega)))
  | m + 1, i, f + 1, h1, h2 => by
    have h5 := tq_len5 o ho
    unfold wp_X5_isName_20
    refine t_len ho (pk_le (tq_len.getD o 0) i (fun z => absurd z (by omega)) (fun hi => ?_))
    rw [h8, nI_add]
    refine ⟨vp_in_nI (by omega) (by decide), t_charAt ho hi h5 ⟨fun _ => nm_r (nI_1 i) ?_, fun _ => hK 0 (Or.inl rfl)⟩⟩
    exact t_isName_20 ho hl h8 hs hK m (i + 1) f (by omega) (by omega)
theorem t_isName {len o : Nat} (ho : o < 7) (hl : len ≤ 160) (h : XT S0 S len) (hK : ∀ r, (r = 0 ∨ r = 1) → K r S) : wp_X5_isName o S K := by
  obtain ⟨st, pl, a1, a2, a3, a4⟩ := h.2.2.2.2.1
  have h5 := tq_len5 o ho
  unfold wp_X5_isName
  refine t_len ho ?_
  rw [a3, a4, pk_sub a1]
  refine ⟨fun e => ?_, fun _ => hK 0 (Or.inl rfl)⟩
  have e2 := (nI_eq (by omega) (by omega)).mp e
  exact t_isName_20 ho hl a3 (by omega) hK (tq_len.getD o 0) 0 2000 (by omega) (by omega)
theorem t_lineBegun {len : Nat} (hl : len ≤ 160) (h : XT S0 S len) (hK : ∀ k, k ≤ 7 → K (nI k) S) : wp_X5_lineBegun S K := by
  have hloop : ∀ (m i f : Nat), i + m = 7 → m < f → wp_X5_lineBegun_13 K f (nI i) S := by
    intro m
    induction m with
    | zero =>
      intro i f h1 h2
      obtain ⟨f, rfl⟩ : ∃ k, f = k + 1 := ⟨f - 1, by omega⟩
      exact pk_le 7 i (fun _ => hK 7 (by decide)) (fun z => absurd z (by omega))
    | succ m ih =>
      intro i f h1 h2
      obtain ⟨f, rfl⟩ : ∃ k, f = k + 1 := ⟨f - 1, by omega⟩
      unfold wp_X5_lineBegun_13
      refine pk_le 7 i (fun z => absurd z (by omega)) (fun hi => ?_)
      have hn : ∀ o, o < 7 → o < 7 ∧ wp_X5_isName o S (fun r6 S7 => ((r6 : Int32) = 0 → ∀ x10 : Int32, x10 = nI i + 1 → wp_X5_lineBegun_13 K f x10 S7) ∧ (¬ (r6 : Int32) = 0 → K (nI i) S7)) := by
        intro o ho
        exact ⟨ho, t_isName ho hl h (fun r hr => ⟨fun _ => nm_r (nI_1 i) (ih (i + 1) f (by omega) (by omega)), fun _ => hK i (by omega)⟩)⟩
      unfold wp_X5_nameOf
      exact ⟨fun _ => hn 6 (by decide), fun _ => hn 0 (by decide), fun _ => hn 1 (by decide), fun _ => hn 2 (by decide), fun _ => hn 3 (by decide), fun _ => hn 4 (by decide), fun _ => hn 5 (by decide)⟩
  unfold wp_X5_lineBegun
  exact ⟨fun _ => hloop 7 0 2000 (by omega) (by omega), fun _ => hK 7 (by decide)⟩
-- NUMBERS, LINES
theorem t_number {len lo hi : Nat} (hl : len ≤ 160) (h : XT S0 S len) (hlh : lo ≤ hi) (hh : hi ≤ 100) (hK : ∀ v S', lo ≤ v → v ≤ hi → XT S0 S' len → K (nI v) S') : wp_X5_takeNumber (nI lo) (nI hi) S K := by
  have h44 : wp_X5_takeNumber_44 K (nI lo) S := t_fail (y := 3) h (by decide) (fun S' a => hK lo S' (Nat.le_refl _) hlh a)
  unfold wp_X5_takeNumber
  refine ⟨fun _ => ⟨fun _ => ⟨fun _ => h44, fun z1 => ⟨fun z2 => nm_e ?_, fun _ => h44⟩⟩, fun _ => t_fail (y := 2) h (by decide) (fun S' a => hK lo S' (Nat.le_refl _) hlh a)⟩, fun _ => hK lo S (Nat.le_refl _) hlh h⟩
  obtain ⟨v, hv1, hv2, e⟩ := ix_bd (by omega) (by omega) z1 z2
  rw [e]
  exact t_tok hl h (fun S' a => hK v S' hv1 hv2 a)
theorem t_semi {len : Nat} (hl : len ≤ 160) (h : XT S0 S len) (hK : ∀ S', XT S0 S' len → KV S') : wp_X5_takeSemicolon S KV := by
  unfold wp_X5_takeSemicolon
  exact ⟨fun _ => ⟨fun _ => t_tok hl h hK, fun _ => t_fail (y := 2) h (by decide) hK⟩, fun _ => hK S h⟩
def addO (A : aE) (k s : Nat) : aE := (aN A + 1, un (aK A) (aN A) k, un (aS A) (aN A) s, un (aW A) (aN A) 0, aG A, aM A, aR A, aT A, aC A, aA A)
theorem addO_wf {A : aE} (hw : wfD A) (hn : aN A < 5) {k s : Nat} (hk : k < 4) (hs : s ≤ 40) : wfD (addO A k s) := by
  obtain ⟨h1, h2, h3, h4, h5, h6⟩ := hw
  refine ⟨by show aN A + 1 ≤ 5; omega, fun q => ?_, un_le h3 hs, un_le h4 (by omega), ?_, h6⟩
  · show un (aK A) (aN A) k q < 4
    have := h2 q
    unfold un
    split <;> omega
  · show aG A < 2 ^ (aN A + 1)
    have : 2 ^ aN A < 2 ^ (aN A + 1) := Nat.pow_lt_pow_right (by decide) (by omega)
    omega
theorem c_addOne {o k s : Nat} {A : aE} (hR : RC S o A) (hn : aN A ≤ 5) (h1 : aN A < 5 → ∀ S', RC S' o (addO A k s) → Fr o S S' → KV S') (h0 : aN A = 5 → KV S) : wp_X1_addOne o (nI k) (nI s) S KV := by
  obtain ⟨h5, h6, h7, h8, h9, h10, hk, hs, hw, ha⟩ := hR
  unfold wp_X1_addOne
  rw [h5]
  refine pk_le 5 (aN A) (fun z => h0 (by omega)) (fun z => ?_)
  have hin : vp_in (nI (aN A)) 5 := vp_in_nI (by omega) (by decide)
  refine ⟨hin, nm_e ?_⟩
  rw [sA_1, h5]
  refine ⟨hin, nm_e ?_⟩
  rw [sA_1, sA_1, h5]
  refine ⟨hin, nm_e ?_⟩
  rw [sA_1, sA_1, sA_1, h5, nI_clamp (by omega)]
  rw [nI_1]
  refine nm_e (h1 z _ ⟨?_, ?_, ?_, ?_, ?_, ?_, fun q hq => ?_, fun q hq => ?_, fun q hq => ?_, fun i hi => ?_⟩ ((((Fr.rf.A _ _ _).A _ _ _).A _ _ _).I _ _))
  · rw [sI_1, if_pos rfl]; rfl
  · rw [sI_1, if_neg (by decide)]; exact h6
  · rw [sI_1, if_neg (by decide)]; exact h7
  · rw [sI_1, if_neg (by decide)]; exact h8
  · rw [sI_1, if_neg (by decide)]; exact h9
  · rw [sI_1, if_neg (by decide)]; exact h10
  · have hq : q < aN A + 1 := hq
    show (sA (sA (sA S o 0 (aN A) (nI k)) o 1 (aN A) (nI s)) o 2 (aN A) (-1)).2.1 o 0 q = nI (un (aK A) (aN A) k q)
    rw [sA_nk _ _ _ _ _ (by decide), sA_nk _ _ _ _ _ (by decide), sA_at]
    by_cases e : q = aN A
    · rw [if_pos e, e, un_s]
    · rw [if_neg e, un_n _ _ e]; exact hk q (by omega)
  · have hq : q < aN A + 1 := hq
    show (sA (sA (sA S o 0 (aN A) (nI k)) o 1 (aN A) (nI s)) o 2 (aN A) (-1)).2.1 o 1 q = nI (un (aS A) (aN A) s q)
    rw [sA_nk _ _ _ _ _ (by decide), sA_at, sA_nk _ _ _ _ _ (by decide)]
    by_cases e : q = aN A
    · rw [if_pos e, e, un_s]
    · rw [if_neg e, un_n _ _ e]; exact hs q (by omega)
  · have hq : q < aN A + 1 := hq
    show (sA (sA (sA S o 0 (aN A) (nI k)) o 1 (aN A) (nI s)) o 2 (aN A) (-1)).2.1 o 2 q = nI (un (aW A) (aN A) 0 q) - 1
    rw [sA_at, sA_nk _ _ _ _ _ (by decide), sA_nk _ _ _ _ _ (by decide)]
    by_cases e : q = aN A
    · rw [if_pos e, e, un_s]; decide
    · rw [if_neg e, un_n _ _ e]; exact hw q (by omega)
  · show (sA (sA (sA S o 0 (aN A) (nI k)) o 1 (aN A) (nI s)) o 2 (aN A) (-1)).2.1 o 3 i = _
    rw [sA_nk _ _ _ _ _ (by decide), sA_nk _ _ _ _ _ (by decide), sA_nk _ _ _ _ _ (by decide)]
    exact ha i hi
theorem t_one {len k : Nat} (hl : len ≤ 160) (h : XT S0 S len) (hk : k < 4) (hK : ∀ S', XT S0 S' len → KV S') : wp_X5_tellOne (nI k) S KV := by
  have h49 : ∀ (s : Nat) (S' : tq_St), s ≤ 40 → XT S0 S' len → wp_X5_tellOne_49 KV (nI k) (nI s) S' := by
    intro s S' hs h'
    obtain ⟨A, c1, c2⟩ := h'.2.2.2.2.2.2
    unfold wp_X5_tellOne_49
    exact c_addOne c2 c1.1 (fun hn S2 a1 a2 => hK S2 (h'.dr a2 (addO_wf c1 hn hk hs) a1)) (fun _ => hK S' h')
  obtain ⟨A, c1, c2⟩ := h.2.2.2.2.2.2
  unfold wp_X5_tellOne
  refine ⟨fun _ => t_tok hl h (fun S' h' => ⟨fun _ => h49 0 S' (by omega) h', fun _ => t_number (lo := 0) (hi := 40) hl h' (by omega) (by omega) (fun v S2 _ hv h2 => h49 v S2 hv h2)⟩), fun _ => t_fail (y := 5) h (by decide) hK⟩
theorem planA_wfD {A : aE} (hw : wfD A) (hc : aC A < 8) {a : Nat} (ha : a ≤ 6) : wfD (planA A a) := by
  obtain ⟨h1, h2, h3, h4, h5, h6, h7, h8, h9, h10⟩ := hw
  refine ⟨h1, h2, h3, h4, h5, h6, h7, h8, by show aC A + 1 ≤ 8; omega, fun i hi => ?_⟩
  have hi : i < aC A + 1 := hi
  show un (aA A) (aC A) a i ≤ 6
  by_cases e : i = aC A
  · subst e; rw [un_s]; exact ha
  · rw [un_n _ _ e]; exact h10 i (by omega)
theorem t_plan_2 {len : Nat} (hl : len ≤ 160) (hK : ∀ S', XT S0 S' len → KV S') : ∀ (m i f : Nat) (S : tq_St), i + m = 9 → m < f → XT S0 S len → wp_X5_tellPlan_2 KV f (nI i) S
  | 0, i, f + 1, S, h1, h2, h => by
    unfold wp_X5_tellPlan_2
    exact pk_lt 8 i (fun _ => hK S h) (fun z => absurd z (by omega))
  | m + 1, i, f + 1, S, h1, h2, h => by
    unfold wp_X5_tellPlan_2
    refine pk_lt 8 i (fun z => absurd z (by omega)) (fun _ => ⟨fun _ => hK S h, fun _ => ⟨fun _ => hK S h, fun _ => ⟨fun _ => ?_, fun _ => ?_⟩⟩⟩)
    · refine t_number (lo := 0) (hi := 6) hl h (by omega) (by omega) (fun v S2 _ hv x2 => ?_)
      obtain ⟨A, c1, c2⟩ := x2.2.2.2.2.2.2
      refine c_addAct c2 c1.2.2.2.2.2.2.2.2.1 (fun hc S3 a1 a2 a3 a4 => nm_r (nI_1 i) ?_) (fun _ => nm_r (nI_1 i) ?_)
      · exact t_plan_2 hl hK m (i + 1) f S3 (by omega) (by omega) (x2.dr a2 (planA_wfD c1 hc hv) a1)
      · exact t_plan_2 hl hK m (i + 1) f S2 (by omega) (by omega) x2
    · exact t_fail (y := 5) h (by decide) (fun S2 x2 => nm_r (nI_1 i) (t_plan_2 hl hK m (i + 1) f S2 (by omega) (by omega) x2))
theorem t_line {len : Nat} (hl : len ≤ 160) (h : XT S0 S len) (hK : ∀ S', XT S0 S' len → KV S') : wp_X5_tellLine S KV := by
  have h123 : ∀ S', XT S0 S' len → wp_X5_tellLine_123 KV S' := fun S' x => t_semi hl x hK
  unfold wp_X5_tellLine
  refine t_lineBegun hl h (fun k hk => ⟨fun _ => pk_le 4 k (fun _ => ⟨fun _ => nm_e ?_, fun _ => t_fail (y := 4) h (by decide) h123⟩) (fun hk4 => t_one hl h hk4 h123), fun _ => t_fail (y := 2) h (by decide) h123⟩)
  refine t_tok hl (h.i (by decide) _) (fun S2 x2 => ⟨fun _ => ⟨fun _ => ?_, fun _ => ?_⟩, fun _ => ?_⟩)
  · unfold wp_X5_tellPlan
    exact t_plan_2 hl h123 9 0 2000 S2 (by omega) (by omega) x2
  · refine t_number (lo := 1) (hi := 9) hl x2 (by omega) (by omega) (fun v S3 hv1 hv2 x3 => nm_e ?_)
    obtain ⟨A, c1, c2⟩ := x3.2.2.2.2.2.2
    exact h123 _ (x3.dr (Fr.rf.I _ _) (A := uT A v) ⟨c1.1, c1.2.1, c1.2.2.1, c1.2.2.2.1, c1.2.2.2.2.1, c1.2.2.2.2.2.1, c1.2.2.2.2.2.2.1, ⟨hv1, hv2⟩, c1.2.2.2.2.2.2.2.2⟩ (c2.h v))
  · refine t_number (lo := 1) (hi := 5) hl x2 (by omega) (by omega) (fun v S3 hv1 hv2 x3 => nm_e ?_)
    obtain ⟨A, c1, c2⟩ := x3.2.2.2.2.2.2
    exact h123 _ (x3.dr (Fr.rf.I _ _) (A := uR A v) ⟨c1.1, c1.2.1, c1.2.2.1, c1.2.2.2.1, c1.2.2.2.2.1, c1.2.2.2.2.2.1, ⟨hv1, hv2⟩, c1.2.2.2.2.2.2.2⟩ (c2.r v))
end Q9
