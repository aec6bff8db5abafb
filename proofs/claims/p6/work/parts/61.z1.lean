section Z1
variable {S : tq_St} {G : aQ} {K : Int32 → tq_St → Prop}
-- THE REFERENCE HOLDS G
def ZI (S : tq_St) (k : Nat) (x : Option aE) : Prop := match x with
  | none => S.2.1 28 24 k = 0
  | some B => S.2.1 28 24 k = 1 ∧ RM S (28 * (k + 1)) B
def ZH (S : tq_St) (k : Nat) (x : Option Nat × Nat × (Nat → Int32)) : Prop := match x.1 with
  | none => S.2.1 28 25 k = -4
  | some l => S.2.1 28 25 k = nI l ∧ S.2.1 28 26 k = nI x.2.1 ∧ ∀ i, i < 40 → S.2.1 28 27 (40 * k + i) = x.2.2 i
def tq_cuts : List Nat := [0, 5, 9, 13, 16, 20, 25, 29]
def tq_lets : List Nat := [112, 108, 97, 105, 110, 115, 111, 102, 116, 115, 104, 97, 109, 100, 114, 121, 114, 111, 111, 109, 116, 104, 105, 110, 107, 112, 108, 97, 110]
def RZ (S : tq_St) (G : aQ) : Prop := RM S 0 (qA G) ∧ (∀ k, k < 2 → ZI S k (qI G k)) ∧ (S.1 28 8 = nI (qT G).1 ∧ ∀ i, i < (qT G).1 → S.2.1 28 7 i = nI ((qT G).2 i)) ∧ S.1 28 9 = nI (qF G) ∧ (S.1 28 22 = nI (qS G).1 ∧ ∀ i, i < (qS G).1 → S.2.1 28 21 (2 * i) = nI ((qS G).2.1 i) ∧ S.2.1 28 21 (2 * i + 1) = bI ((qS G).2.2 i)) ∧ (∀ k, k < 4 → ZH S k (qH G k)) ∧ S.1 28 28 = nI (qO G) ∧ (∀ i, i < 8 → S.2.1 28 16 i = nI (tq_cuts.getD i 0)) ∧ ∀ i, i < 29 → S.2.1 28 17 i = nI (tq_lets.getD i 0)
/-- only what is made anew at each use has changed -/
def FZ (S S' : tq_St) : Prop := Fr 28 S S' ∧ (∀ k, k = 2 ∨ k = 8 ∨ k = 9 ∨ k = 22 ∨ k = 28 → S'.1 28 k = S.1 28 k) ∧ (∀ k, k ≠ 0 → k ≠ 3 → k ≠ 23 → S'.2.1 28 k = S.2.1 28 k) ∧ ∀ i, i < 84 → pg S' i = pg S i
theorem FZ.rf : FZ S S := ⟨Fr.rf, fun _ _ => rfl, fun _ _ _ _ => rfl, fun _ _ => rfl⟩
theorem FZ.tr {S T U : tq_St} (h : FZ S T) (h2 : FZ T U) : FZ S U := ⟨h.1.tr h2.1, fun k hk => (h2.2.1 k hk).trans (h.2.1 k hk), fun k a b c => (h2.2.2.1 k a b c).trans (h.2.2.1 k a b c), fun i hi => (h2.2.2.2 i hi).trans (h.2.2.2 i hi)⟩
theorem FM.fr {g : Nat} {S S' : tq_St} (h : FM g S S') : Fr 28 S S' := ⟨fun o ho => ⟨by rw [h.1], h.2.1 o ho⟩, h.2.2.2.2⟩
theorem FT.fr {S S' : tq_St} (h : FT S S') : Fr 28 S S' := ⟨h.1, h.2.2.2.2⟩
theorem FT.fz {S S' : tq_St} (h : FT S S') : FZ S S' := ⟨h.fr, fun k hk => h.2.1 k (by omega) (by omega) (by omega), fun k a _ _ => h.2.2.1 k a, fun i hi => h.2.2.2.1 i (by omega)⟩
theorem FM.fz {g : Nat} {S S' : tq_St} (h : FM g S S') (hg : 84 ≤ g) : FZ S S' := ⟨h.fr, fun k hk => by rw [h.1], fun k a _ _ => h.2.2.1 k a, fun i hi => h.2.2.2.1 i (by omega)⟩
theorem RM.fz {S S' : tq_St} {g : Nat} {A : aE} (h : RM S g A) (f : FZ S S') (hn : aN A ≤ 5) (hc : aC A ≤ 8) (hg : g + 28 ≤ 84) : RM S' g A := by
  obtain ⟨h1, h2, h3, h4, h5, h6, h7, h8, h9, h10, h11⟩ := h
  obtain ⟨f1, f2, f3, f4⟩ := f
  refine ⟨by rw [f2 2 (by omega)]; exact h1, fun p hp => ?_, fun p hp => ?_, fun p hp => ?_, ?_, ?_, ?_, ?_, ?_, fun i hi => ?_, fun k hk => ?_⟩
  · rw [f4 _ (by omega)]; exact h2 p hp
  · rw [f4 _ (by omega)]; exact h3 p hp
  · rw [f4 _ (by omega)]; exact h4 p hp
  · rw [f4 _ (by omega)]; exact h5
  · rw [f4 _ (by omega)]; exact h6
  · rw [f4 _ (by omega)]; exact h7
  · rw [f4 _ (by omega)]; exact h8
  · rw [f4 _ (by omega)]; exact h9
  · rw [f4 _ (by omega)]; exact h10 i hi
  · rw [f3 1 (by decide) (by decide) (by decide)]; exact h11 k hk
theorem RZ.fz {S' : tq_St} (h : RZ S G) (hw : wfQ G) (f : FZ S S') : RZ S' G := by
  obtain ⟨h1, h2, h3, h4, h5, h6, h7, h8, h9⟩ := h
  have f3 := f.2.2.1
  refine ⟨h1.fz f hw.1.1 hw.1.2.2.2.2.2.2.2.2.1 (by omega), fun k hk => ?_, ⟨by rw [f.2.1 8 (by omega)]; exact h3.1, fun i hi => by rw [f3 7 (by decide) (by decide) (by decide)]; exact h3.2 i hi⟩, by rw [f.2.1 9 (by omega)]; exact h4, ⟨by rw [f.2.1 22 (by omega)]; exact h5.1, fun i hi => by rw [f3 21 (by decide) (by decide) (by decide)]; exact h5.2 i hi⟩, fun k hk => ?_, by rw [f.2.1 28 (by omega)]; exact h7, fun i hi => by rw [f3 16 (by decide) (by decide) (by decide)]; exact h8 i hi, fun i hi => by rw [f3 17 (by decide) (by decide) (by decide)]; exact h9 i hi⟩
  · have h2 := h2 k hk
    unfold ZI at h2 ⊢
    split at h2
    · rw [f3 24 (by decide) (by decide) (by decide)]; exact h2
    · rename_i B e
      have hB := hw.2.1 k B e
      rw [f3 24 (by decide) (by decide) (by decide)]
      exact ⟨h2.1, h2.2.fz f hB.1.1 hB.1.2.2.2.2.2.2.2.2.1 (by omega)⟩
  · have h6 := h6 k hk
    unfold ZH at h6 ⊢
    rw [f3 25 (by decide) (by decide) (by decide), f3 26 (by decide) (by decide) (by decide), f3 27 (by decide) (by decide) (by decide)]
    exact h6
/-- the page of now is changed -/
theorem RZ.now {S' : tq_St} (h : RZ S G) (hw : wfQ G) (f : FM 0 S S') {A : aE} (hA : RM S' 0 A) : RZ S' (vA G A) := by
  obtain ⟨h1, h2, h3, h4, h5, h6, h7, h8, h9⟩ := h
  have f3 := f.2.2.1
  have f1 := f.1
  refine ⟨hA, fun k hk => ?_, ⟨by rw [f1]; exact h3.1, fun i hi => by rw [f3 7 (by decide)]; exact h3.2 i hi⟩, by rw [f1]; exact h4, ⟨by rw [f1]; exact h5.1, fun i hi => by rw [f3 21 (by decide)]; exact h5.2 i hi⟩, fun k hk => ?_, by rw [f1]; exact h7, fun i hi => by rw [f3 16 (by decide)]; exact h8 i hi, fun i hi => by rw [f3 17 (by decide)]; exact h9 i hi⟩
  · have h2 := h2 k hk
    show ZI S' k (qI G k)
    unfold ZI at h2 ⊢
    split at h2
    · rw [f3 24 (by decide)]; exact h2
    · rename_i B e
      have hB := hw.2.1 k B e
      rw [f3 24 (by decide)]
      exact ⟨h2.1, h2.2.fm f hB.1.1 hB.1.2.2.2.2.2.2.2.2.1 (by omega)⟩
  · have h6 := h6 k hk
    show ZH S' k (qH G k)
    unfold ZH at h6 ⊢
    rw [f3 25 (by decide), f3 26 (by decide), f3 27 (by decide)]
    exact h6
-- BOUNDS
theorem lgc_lt (x y : Int64) : lg_cmp x y < 0 ↔ x.toInt < y.toInt := by
  unfold lg_cmp
  by_cases h1 : x > y
  · rw [if_pos h1]
    have h2 : y.toInt < x.toInt := Int64.lt_iff_toInt_lt.mp h1
    constructor
    · intro z; exact absurd z (by decide)
    · intro z; omega
  · rw [if_neg h1]
    by_cases h2 : x = y
    · rw [if_pos h2]
      constructor
      · intro z; exact absurd z (by decide)
      · intro z; rw [h2] at z; omega
    · rw [if_neg h2]
      constructor
      · intro _
        have h3 : ¬ y.toInt < x.toInt := fun c => h1 (Int64.lt_iff_toInt_lt.mpr c)
        have h4 : x.toInt ≠ y.toInt := fun c => h2 (Int64.toInt_inj.mp c)
        omega
      · intro _; decide
theorem lgc_gt (x y : Int64) : 0 < lg_cmp x y ↔ y.toInt < x.toInt := by
  unfold lg_cmp
  by_cases h1 : x > y
  · rw [if_pos h1]
    have h2 : y.toInt < x.toInt := Int64.lt_iff_toInt_lt.mp h1
    exact ⟨fun _ => h2, fun _ => by decide⟩
  · rw [if_neg h1]
    have h3 : ¬ y.toInt < x.toInt := fun c => h1 (Int64.lt_iff_toInt_lt.mpr c)
    by_cases h2 : x = y
    · rw [if_pos h2]
      exact ⟨fun z => absurd z (by decide), fun z => absurd z h3⟩
    · rw [if_neg h2]
      exact ⟨fun z => absurd z (by decide), fun z => absurd z h3⟩
theorem m_inL {x a b : Int64} (h1 : a.toInt ≤ x.toInt → x.toInt ≤ b.toInt → K 1 S) (h0 : ¬ (a.toInt ≤ x.toInt ∧ x.toInt ≤ b.toInt) → K 0 S) : wp_X7_in x a b S K := by
  unfold wp_X7_in
  rw [lgc_lt, lgc_gt]
  exact ⟨fun z => h0 (by omega), fun z => ⟨fun z2 => h0 (by omega), fun z2 => h1 (by omega) (by omega)⟩⟩
/-- an int held against two bounds -/
theorem m_in {x : Int32} {a b : Int64} (lo hi : Nat) (ha : a.toInt = lo) (hb : b.toInt = hi) (hh : hi < 2 ^ 30) (h1 : ∀ v, lo ≤ v → v ≤ hi → x = nI v → K 1 S) (h0 : (∀ v, lo ≤ v → v ≤ hi → x ≠ nI v) → K 0 S) : wp_X7_in x.toInt64 a b S K := by
  refine m_inL (fun z1 z2 => ?_) (fun z => h0 (fun v hv1 hv2 e => z ?_))
  · rw [Int32.toInt_toInt64, ha] at z1
    rw [Int32.toInt_toInt64, hb] at z2
    refine h1 x.toInt.toNat (by omega) (by omega) (Int32.toInt_inj.mp ?_)
    rw [nI_toInt (by omega)]
    omega
  · subst e
    rw [Int32.toInt_toInt64, ha, hb, nI_toInt (by omega)]
    omega
/-- .. against 0 and one less than a number -/
theorem m_inN {x : Int32} {n : Nat} (hn : n < 2 ^ 30) (h1 : ∀ v, v < n → x = nI v → K 1 S) (h0 : (∀ v, v < n → x ≠ nI v) → K 0 S) : wp_X7_in x.toInt64 0 (nI n - 1).toInt64 S K := by
  have e0 : (0 : Int64).toInt = 0 := by decide
  have e1 : (nI n - 1).toInt64.toInt = (n : Int) - 1 := by
    rw [Int32.toInt_toInt64]
    have h := pk_sub_toInt (a := n) (b := 1) (by omega) (by omega)
    exact h
  refine m_inL (fun z1 z2 => ?_) (fun z => h0 (fun v hv e => z ?_))
  · rw [Int32.toInt_toInt64, e0] at z1
    rw [Int32.toInt_toInt64, e1] at z2
    refine h1 x.toInt.toNat (by omega) (Int32.toInt_inj.mp ?_)
    rw [nI_toInt (by omega)]
    omega
  · subst e
    rw [Int32.toInt_toInt64, e0, e1, nI_toInt (by omega)]
    omega
theorem m_isOne {x : Int32} {n : Nat} (h5 : S.1 28 2 = nI n) (hn : n ≤ 5) (h1 : ∀ j, j < n → x = nI j → K 1 S) (h0 : (∀ j, j < n → x ≠ nI j) → K 0 S) : wp_X7_isOne x S K := by
  unfold wp_X7_isOne
  rw [h5]
  exact m_inN (by omega) (fun v hv e => ⟨Or.inr rfl, h1 v hv e⟩) (fun h => ⟨Or.inl rfl, h0 h⟩)
theorem m_isAct {x : Int32} {n : Nat} (h5 : S.1 28 2 = nI n) (hn : n ≤ 5) (h1 : ∀ a, okA n a → x = nI a → K 1 S) (h0 : (∀ a, okA n a → x ≠ nI a) → K 0 S) : wp_X7_isAct x S K := by
  unfold wp_X7_isAct
  refine m_isOne h5 hn (fun j hj e => ⟨fun _ => h1 j (Or.inl hj) e, fun z => absurd z (by decide)⟩) (fun hno => ⟨fun z => absurd rfl z, fun _ => ?_⟩)
  refine ⟨fun e => h1 5 (Or.inr (Or.inl rfl)) e, fun e5 => ⟨fun e6 => h0 (fun a ha e => ?_), fun e => h1 6 (Or.inr (Or.inr rfl)) e⟩⟩
  rcases ha with ha | ha | ha
  · exact hno a ha e
  · subst ha; exact e5 e
  · subst ha; exact e6 e
-- THE REFERENCE'S CALLS: tape
theorem RZ.tape {S' : tq_St} (h : RZ S G) (f : Fr 28 S S') (fi : ∀ k, k = 2 ∨ k = 9 ∨ k = 22 ∨ k = 28 → S'.1 28 k = S.1 28 k) (fa : ∀ k, k ≠ 7 → S'.2.1 28 k = S.2.1 28 k) {t : Nat × (Nat → Nat)} (ht : S'.1 28 8 = nI t.1 ∧ ∀ i, i < t.1 → S'.2.1 28 7 i = nI (t.2 i)) : RZ S' (vT G t) := by
  obtain ⟨h1, h2, h3, h4, h5, h6, h7, h8, h9⟩ := h
  have fR : ∀ g A, RM S g A → RM S' g A := by
    intro g A hR
    unfold RM pg at hR ⊢
    rw [fi 2 (by omega), fa 0 (by decide), fa 1 (by decide)]
    exact hR
  refine ⟨fR _ _ h1, fun k hk => ?_, ht, by rw [fi 9 (by omega)]; exact h4, ⟨by rw [fi 22 (by omega)]; exact h5.1, fun i hi => by rw [fa 21 (by decide)]; exact h5.2 i hi⟩, fun k hk => ?_, by rw [fi 28 (by omega)]; exact h7, fun i hi => by rw [fa 16 (by decide)]; exact h8 i hi, fun i hi => by rw [fa 17 (by decide)]; exact h9 i hi⟩
  · have h2 := h2 k hk
    show ZI S' k (qI G k)
    unfold ZI at h2 ⊢
    split at h2
    · rw [fa 24 (by decide)]; exact h2
    · rw [fa 24 (by decide)]; exact ⟨h2.1, fR _ _ h2.2⟩
  · have h6 := h6 k hk
    show ZH S' k (qH G k)
    unfold ZH at h6 ⊢
    rw [fa 25 (by decide), fa 26 (by decide), fa 27 (by decide)]
    exact h6
theorem z_feed {x : Int32} (hG : RZ S G) (hw : wfQ G) (hbad : (∀ c, c ≤ 127 → x ≠ nI c) → K (-1) S) (hok : ∀ c, c ≤ 127 → x = nI c → (qT G).1 < 160 → ∀ S', RZ S' (feedF G c) → Fr 28 S S' → K (nI ((qT G).1 + 1)) S') (hfull : ∀ c, c ≤ 127 → x = nI c → (qT G).1 = 160 → K (-3) S) : wp_X7_feed x S K := by
  have hl := hw.2.2.1.1
  have h3 := hG.2.2.1
  unfold wp_X7_feed
  refine m_in 0 127 (by decide) (by decide) (by decide) (fun c _ hc e => ⟨fun _ => ?_, fun z => absurd z (by decide)⟩) (fun h => ⟨fun z => absurd rfl z, fun _ => hbad (fun c hc => h c (by omega) hc)⟩)
  subst e
  rw [h3.1]
  have e160 : (160 : Int32) = nI 160 := rfl
  rw [e160, nI_eq (by omega) (by decide)]
  refine ⟨fun hne => ⟨vp_in_nI (by omega) (by decide), nm_e (nm_e ?_)⟩, fun e => hfull c hc rfl e⟩
  have e1 : (sI (sA S 28 7 (nI (qT G).1).toNatClampNeg (nI c)) 28 8 ((sA S 28 7 (nI (qT G).1).toNatClampNeg (nI c)).1 28 8 + 1)).1 28 8 = nI ((qT G).1 + 1) := by
    rw [sI_1, if_pos rfl, sA_1, h3.1, nI_1]
  rw [e1]
  have f := ((Fr.rf (o := 28) (S := S)).A 7 (nI (qT G).1).toNatClampNeg (nI c)).I 8 ((sA S 28 7 (nI (qT G).1).toNatClampNeg (nI c)).1 28 8 + 1)
  refine hok c hc rfl (by omega) _ ?_ f
  unfold feedF
  rw [if_pos (by omega)]
  refine hG.tape f (fun k hk => by rw [sI_1, if_neg (by omega)]; rfl) (fun k hk => sA_nk _ _ _ _ _ hk) ⟨e1, fun i hi => ?_⟩
  show (sA S 28 7 (nI (qT G).1).toNatClampNeg (nI c)).2.1 28 7 i = nI (un (qT G).2 (qT G).1 c i)
  have hi : i < (qT G).1 + 1 := hi
  rw [sA_at, nI_clamp (by omega)]
  by_cases e : i = (qT G).1
  · rw [if_pos e, e, un_s]
  · rw [if_neg e, un_n _ _ e]; exact h3.2 i (by omega)
theorem z_end {x : Int32} (hG : RZ S G) (hw : wfQ G) (hbad : (∀ n, n ≤ (qT G).1 → x ≠ nI n) → K (-1) S) (hok : ∀ n, n ≤ (qT G).1 → x = nI n → ∀ S', RZ S' (endF G n) → Fr 28 S S' → K (nI (qT G).1) S') : wp_X7_end x S K := by
  have hl := hw.2.2.1.1
  have h3 := hG.2.2.1
  unfold wp_X7_end
  rw [h3.1]
  refine m_in 0 (qT G).1 (by decide) (by rw [Int32.toInt_toInt64, nI_toInt (by omega)]) (by omega) (fun n _ hn e => ⟨fun _ => nm_e (nm_e ?_), fun z => absurd z (by decide)⟩) (fun h => ⟨fun z => absurd rfl z, fun _ => hbad (fun c hc => h c (by omega) hc)⟩)
  subst e
  rw [h3.1]
  have f := (Fr.rf (o := 28) (S := S)).I 8 (nI n)
  refine hok n hn rfl _ (hG.tape (t := (n, (qT G).2)) f (fun k hk => by rw [sI_1, if_neg (by omega)]) (fun k hk => rfl) ⟨by rw [sI_1, if_pos rfl], fun i hi => h3.2 i (by have hi : i < n := hi; omega)⟩) f
theorem z_fault (hG : RZ S G) (hK : K (nI (qF G)) S) : wp_X7_fault S K := by
  unfold wp_X7_fault
  rw [hG.2.2.2.1]
  exact hK
end Z1
