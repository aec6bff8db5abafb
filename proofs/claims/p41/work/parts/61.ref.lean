section
section Z1
variable {S : tq_St} {G : aQ} {K : Int32 → tq_St → Prop}
-- THE REFERENCE HOLDS G
def ZI (S : tq_St) (k : Nat) (x : Option aE) : Prop := match x with
  | none => S.2.1 28 24 k = 0
  | some B => S.2.1 28 24 k = 1 ∧ RM S (28 * (k + 1)) B
def ZH (S : tq_St) (k : Nat) (x : Option Nat × Nat × (Nat → Int32)) : Prop := match x.1 with
  | none => S.2.1 28 25 k = -4
  | some l => S.2.1 28 25 k = nI l ∧ S.2.1 28 26 k = nI x.2.1 ∧ ∀ i, i < 40 → S.2.1 28 27 (40 * k + i) = x.2.2 i
def tq_cuts : List Nat := [0, 5, 9, 13, 16, 20, 25, 29]
def tq_lets : List Nat := [112, 108, 97, 105, 110, 115, 111, 102, 116, 115, 104, 97, 109, 100, 114, 121, 114, 111, 111, 109, 116, 104, 105, 110, 107, 112, 108, 97, 110]
def RZ (S : tq_St) (G : aQ) : Prop := RM S 0 (qA G) ∧ (∀ k, k < 2 → ZI S k (qI G k)) ∧ (S.1 28 8 = nI (qT G).1 ∧ ∀ i, i < (qT G).1 → S.2.1 28 7 i = nI ((qT G).2 i)) ∧ S.1 28 9 = nI (qF G) ∧ (S.1 28 22 = nI (qS G).1 ∧ ∀ i, i < (qS G).1 → S.2.1 28 21 (2 * i) = nI ((qS G).2.1 i) ∧ S.2.1 28 21 (2 * i + 1) = bI ((qS G).2.2 i)) ∧ (∀ k, k < 4 → ZH S k (qH G k)) ∧ S.1 28 28 = nI (qO G) ∧ (∀ i, i < 8 → S.2.1 28 16 i = nI (tq_cuts.getD i 0)) ∧ ∀ i, i < 29 → S.2.1 28 17 i = nI (tq_lets.getD i 0)
/-- only what is made anew at each use has changed -/
def FZ (S S' : tq_St) : Prop := Fr 28 S S' ∧ (∀ k, k = 2 ∨ k = 8 ∨ k = 9 ∨ k = 22 ∨ k = 28 → S'.1 28 k = S.1 28 k) ∧ (∀ k, k ≠ 0 → k ≠ 3 → k ≠ 23 → S'.2.1 28 k = S.2.1 28 k) ∧ ∀ i, i < 84 → pg S' i = pg S i
theorem FZ.rf : FZ S S := ⟨Fr.rf, fun _ _ => rfl, fun _ _ _ _ => rfl, fun _ _ => rfl⟩
theorem FZ.tr {S T U : tq_St} (h : FZ S T) (h2 : FZ T U) : FZ S U := ⟨h.1.tr h2.1, fun k hk => (h2.2.1 k hk).trans (h.2.1 k hk), fun k a b c => (h2.2.2.1 k a b c).trans (h.2.2.1 k a b c), fun i hi => (h2.2.2.2 i hi).trans (h.2.2.2 i hi)⟩
theorem FM.fr {g : Nat} {S S' : tq_St} (h : FM g S S') : Fr 28 S S' := ⟨fun o ho => ⟨by rw [h.1], h.2.1 o ho⟩, h.2.2.2.2⟩
theorem FT.fr {S S' : tq_St} (h : FT S S') : Fr 28 S S' := ⟨h.1, h.2.2.2.2⟩
theorem FT.fz {S S' : tq_St} (h : FT S S') : FZ S S' := ⟨h.fr, fun k hk => h.2.1 k (by omega) (by omega) (by omega), fun k a _ _ => h.2.2.1 k a, fun i hi => h.2.2.2.1 i (by omega)⟩
theorem FM.fz {g : Nat} {S S' : tq_St} (h : FM g S S') (hg : 84 ≤ g) : FZ S S' := ⟨h.fr, fun k hk => by rw [h.1], fun k a _ _ => h.2.2.1 k a, fun i hi => h.2.2.2.1 i (by omega)⟩
theorem RM.fz {S S' : tq_St} {g : Nat} {A : aE} (h : RM S g A) (f : FZ S S') (hn : aN A ≤ 5) (hc : aC A ≤ 8) (hg : g + 28 ≤ 84) : RM S' g A := by
  obtain ⟨h1, h2, h3, h4, h5, h6, h7, h8, h9, h10, h11⟩ := h
  obtain ⟨f1, f2, f3, f4⟩ := f
  refine ⟨by rw [f2 2 (by omega)]; exact h1, fun p hp => ?_, fun p hp => ?_, fun p hp => ?_, ?_, ?_, ?_, ?_, ?_, fun i hi => ?_, fun k hk => ?_⟩
  · rw [f4 _ (by omega)]; exact h2 p hp
  · rw [f4 _ (by omega)]; exact h3 p hp
  · rw [f4 _ (by omega)]; exact h4 p hp
  · rw [f4 _ (by omega)]; exact h5
  · rw [f4 _ (by omega)]; exact h6
  · rw [f4 _ (by omega)]; exact h7
  · rw [f4 _ (by omega)]; exact h8
  · rw [f4 _ (by omega)]; exact h9
  · rw [f4 _ (by omega)]; exact h10 i hi
  · rw [f3 1 (by decide) (by decide) (by decide)]; exact h11 k hk
theorem RZ.fz {S' : tq_St} (h : RZ S G) (hw : wfQ G) (f : FZ S S') : RZ S' G := by
  obtain ⟨h1, h2, h3, h4, h5, h6, h7, h8, h9⟩ := h
  have f3 := f.2.2.1
  refine ⟨h1.fz f hw.1.1 hw.1.2.2.2.2.2.2.2.2.1 (by omega), fun k hk => ?_, ⟨by rw [f.2.1 8 (by omega)]; exact h3.1, fun i hi => by rw [f3 7 (by decide) (by decide) (by decide)]; exact h3.2 i hi⟩, by rw [f.2.1 9 (by omega)]; exact h4, ⟨by rw [f.2.1 22 (by omega)]; exact h5.1, fun i hi => by rw [f3 21 (by decide) (by decide) (by decide)]; exact h5.2 i hi⟩, fun k hk => ?_, by rw [f.2.1 28 (by omega)]; exact h7, fun i hi => by rw [f3 16 (by decide) (by decide) (by decide)]; exact h8 i hi, fun i hi => by rw [f3 17 (by decide) (by decide) (by decide)]; exact h9 i hi⟩
  · have h2 := h2 k hk
    unfold ZI at h2 ⊢
    split at h2
    · rw [f3 24 (by decide) (by decide) (by decide)]; exact h2
    · rename_i B e
      have hB := hw.2.1 k B e
      rw [f3 24 (by decide) (by decide) (by decide)]
      exact ⟨h2.1, h2.2.fz f hB.1.1 hB.1.2.2.2.2.2.2.2.2.1 (by omega)⟩
  · have h6 := h6 k hk
    unfold ZH at h6 ⊢
    rw [f3 25 (by decide) (by decide) (by decide), f3 26 (by decide) (by decide) (by decide), f3 27 (by decide) (by decide) (by decide)]
    exact h6
/-- the page of now is changed -/
theorem RZ.now {S' : tq_St} (h : RZ S G) (hw : wfQ G) (f : FM 0 S S') {A : aE} (hA : RM S' 0 A) : RZ S' (vA G A) := by
  obtain ⟨h1, h2, h3, h4, h5, h6, h7, h8, h9⟩ := h
  have f3 := f.2.2.1
  have f1 := f.1
  refine ⟨hA, fun k hk => ?_, ⟨by rw [f1]; exact h3.1, fun i hi => by rw [f3 7 (by decide)]; exact h3.2 i hi⟩, by rw [f1]; exact h4, ⟨by rw [f1]; exact h5.1, fun i hi => by rw [f3 21 (by decide)]; exact h5.2 i hi⟩, fun k hk => ?_, by rw [f1]; exact h7, fun i hi => by rw [f3 16 (by decide)]; exact h8 i hi, fun i hi => by rw [f3 17 (by decide)]; exact h9 i hi⟩
  · have h2 := h2 k hk
    show ZI S' k (qI G k)
    unfold ZI at h2 ⊢
    split at h2
    · rw [f3 24 (by decide)]; exact h2
    · rename_i B e
      have hB := hw.2.1 k B e
      rw [f3 24 (by decide)]
      exact ⟨h2.1, h2.2.fm f hB.1.1 hB.1.2.2.2.2.2.2.2.2.1 (by omega)⟩
  · have h6 := h6 k hk
    show ZH S' k (qH G k)
    unfold ZH at h6 ⊢
    rw [f3 25 (by decide), f3 26 (by decide), f3 27 (by decide)]
    exact h6
-- BOUNDS
theorem lgc_lt (x y : Int64) : lg_cmp x y < 0 ↔ x.toInt < y.toInt := by
  unfold lg_cmp
  by_cases h1 : x > y
  · rw [if_pos h1]
    have h2 : y.toInt < x.toInt := Int64.lt_iff_toInt_lt.mp h1
    constructor
    · intro z; exact absurd z (by decide)
    · intro z; omega
  · rw [if_neg h1]
    by_cases h2 : x = y
    · rw [if_pos h2]
      constructor
      · intro z; exact absurd z (by decide)
      · intro z; rw [h2] at z; omega
    · rw [if_neg h2]
      constructor
      · intro _
        have h3 : ¬ y.toInt < x.toInt := fun c => h1 (Int64.lt_iff_toInt_lt.mpr c)
        have h4 : x.toInt ≠ y.toInt := fun c => h2 (Int64.toInt_inj.mp c)
        omega
      · intro _; decide
theorem lgc_gt (x y : Int64) : 0 < lg_cmp x y ↔ y.toInt < x.toInt := by
  unfold lg_cmp
  by_cases h1 : x > y
  · rw [if_pos h1]
    have h2 : y.toInt < x.toInt := Int64.lt_iff_toInt_lt.mp h1
    exact ⟨fun _ => h2, fun _ => by decide⟩
  · rw [if_neg h1]
    have h3 : ¬ y.toInt < x.toInt := fun c => h1 (Int64.lt_iff_toInt_lt.mpr c)
    by_cases h2 : x = y
    · rw [if_pos h2]
      exact ⟨fun z => absurd z (by decide), fun z => absurd z h3⟩
    · rw [if_neg h2]
      exact ⟨fun z => absurd z (by decide), fun z => absurd z h3⟩
theorem m_inL {x a b : Int64} (h1 : a.toInt ≤ x.toInt → x.toInt ≤ b.toInt → K 1 S) (h0 : ¬ (a.toInt ≤ x.toInt ∧ x.toInt ≤ b.toInt) → K 0 S) : wp_X7_in x a b S K := by
  unfold wp_X7_in
  rw [lgc_lt, lgc_gt]
  exact ⟨fun z => h0 (by omega), fun z => ⟨fun z2 => h0 (by omega), fun z2 => h1 (by omega) (by omega)⟩⟩
/-- an int held against two bounds -/
theorem m_in {x : Int32} {a b : Int64} (lo hi : Nat) (ha : a.toInt = lo) (hb : b.toInt = hi) (hh : hi < 2 ^ 30) (h1 : ∀ v, lo ≤ v → v ≤ hi → x = nI v → K 1 S) (h0 : (∀ v, lo ≤ v → v ≤ hi → x ≠ nI v) → K 0 S) : wp_X7_in x.toInt64 a b S K := by
  refine m_inL (fun z1 z2 => ?_) (fun z => h0 (fun v hv1 hv2 e => z ?_))
  · rw [Int32.toInt_toInt64, ha] at z1
    rw [Int32.toInt_toInt64, hb] at z2
    refine h1 x.toInt.toNat (by omega) (by omega) (Int32.toInt_inj.mp ?_)
    rw [nI_toInt (by omega)]
    omega
  · subst e
    rw [Int32.toInt_toInt64, ha, hb, nI_toInt (by omega)]
    omega
/-- .. against 0 and one less than a number -/
theorem m_inN {x : Int32} {n : Nat} (hn : n < 2 ^ 30) (h1 : ∀ v, v < n → x = nI v → K 1 S) (h0 : (∀ v, v < n → x ≠ nI v) → K 0 S) : wp_X7_in x.toInt64 0 (nI n - 1).toInt64 S K := by
  have e0 : (0 : Int64).toInt = 0 := by decide
  have e1 : (nI n - 1).toInt64.toInt = (n : Int) - 1 := by
    rw [Int32.toInt_toInt64]
    have h := pk_sub_toInt (a := n) (b := 1) (by omega) (by omega)
    exact h
  refine m_inL (fun z1 z2 => ?_) (fun z => h0 (fun v hv e => z ?_))
  · rw [Int32.toInt_toInt64, e0] at z1
    rw [Int32.toInt_toInt64, e1] at z2
    refine h1 x.toInt.toNat (by omega) (Int32.toInt_inj.mp ?_)
    rw [nI_toInt (by omega)]
    omega
  · subst e
    rw [Int32.toInt_toInt64, e0, e1, nI_toInt (by omega)]
    omega
theorem m_isOne {x : Int32} {n : Nat} (h5 : S.1 28 2 = nI n) (hn : n ≤ 5) (h1 : ∀ j, j < n → x = nI j → K 1 S) (h0 : (∀ j, j < n → x ≠ nI j) → K 0 S) : wp_X7_isOne x S K := by
  unfold wp_X7_isOne
  rw [h5]
  exact m_inN (by omega) (fun v hv e => ⟨Or.inr rfl, h1 v hv e⟩) (fun h => ⟨Or.inl rfl, h0 h⟩)
theorem m_isAct {x : Int32} {n : Nat} (h5 : S.1 28 2 = nI n) (hn : n ≤ 5) (h1 : ∀ a, okA n a → x = nI a → K 1 S) (h0 : (∀ a, okA n a → x ≠ nI a) → K 0 S) : wp_X7_isAct x S K := by
  unfold wp_X7_isAct
  refine m_isOne h5 hn (fun j hj e => ⟨fun _ => h1 j (Or.inl hj) e, fun z => absurd z (by decide)⟩) (fun hno => ⟨fun z => absurd rfl z, fun _ => ?_⟩)
  refine ⟨fun e => h1 5 (Or.inr (Or.inl rfl)) e, fun e5 => ⟨fun e6 => h0 (fun a ha e => ?_), fun e => h1 6 (Or.inr (Or.inr rfl)) e⟩⟩
  rcases ha with ha | ha | ha
  · exact hno a ha e
  · subst ha; exact e5 e
  · subst ha; exact e6 e
-- THE REFERENCE'S CALLS: tape
theorem RZ.tape {S' : tq_St} (h : RZ S G) (f : Fr 28 S S') (fi : ∀ k, k = 2 ∨ k = 9 ∨ k = 22 ∨ k = 28 → S'.1 28 k = S.1 28 k) (fa : ∀ k, k ≠ 7 → S'.2.1 28 k = S.2.1 28 k) {t : Nat × (Nat → Nat)} (ht : S'.1 28 8 = nI t.1 ∧ ∀ i, i < t.1 → S'.2.1 28 7 i = nI (t.2 i)) : RZ S' (vT G t) := by
  obtain ⟨h1, h2, h3, h4, h5, h6, h7, h8, h9⟩ := h
  have fR : ∀ g A, RM S g A → RM S' g A := by
    intro g A hR
    unfold RM pg at hR ⊢
    rw [fi 2 (by omega), fa 0 (by decide), fa 1 (by decide)]
    exact hR
  refine ⟨fR _ _ h1, fun k hk => ?_, ht, by rw [fi 9 (by omega)]; exact h4, ⟨by rw [fi 22 (by omega)]; exact h5.1, fun i hi => by rw [fa 21 (by decide)]; exact h5.2 i hi⟩, fun k hk => ?_, by rw [fi 28 (by omega)]; exact h7, fun i hi => by rw [fa 16 (by decide)]; exact h8 i hi, fun i hi => by rw [fa 17 (by decide)]; exact h9 i hi⟩
  · have h2 := h2 k hk
    show ZI S' k (qI G k)
    unfold ZI at h2 ⊢
    split at h2
    · rw [fa 24 (by decide)]; exact h2
    · rw [fa 24 (by decide)]; exact ⟨h2.1, fR _ _ h2.2⟩
  · have h6 := h6 k hk
    show ZH S' k (qH G k)
    unfold ZH at h6 ⊢
    rw [fa 25 (by decide), fa 26 (by decide), fa 27 (by decide)]
    exact h6
theorem z_feed {x : Int32} (hG : RZ S G) (hw : wfQ G) (hbad : (∀ c, c ≤ 127 → x ≠ nI c) → K (-1) S) (hok : ∀ c, c ≤ 127 → x = nI c → (qT G).1 < 160 → ∀ S', RZ S' (feedF G c) → Fr 28 S S' → K (nI ((qT G).1 + 1)) S') (hfull : ∀ c, c ≤ 127 → x = nI c → (qT G).1 = 160 → K (-3) S) : wp_X7_feed x S K := by
  have hl := hw.2.2.1.1
  have h3 := hG.2.2.1
  unfold wp_X7_feed
  refine m_in 0 127 (by decide) (by decide) (by decide) (fun c _ hc e => ⟨fun _ => ?_, fun z => absurd z (by decide)⟩) (fun h => ⟨fun z => absurd rfl z, fun _ => hbad (fun c hc => h c (by omega) hc)⟩)
  subst e
  rw [h3.1]
  have e160 : (160 : Int32) = nI 160 := rfl
  rw [e160, nI_eq (by omega) (by decide)]
  refine ⟨fun hne => ⟨vp_in_nI (by omega) (by decide), nm_e (nm_e ?_)⟩, fun e => hfull c hc rfl e⟩
  have e1 : (sI (sA S 28 7 (nI (qT G).1).toNatClampNeg (nI c)) 28 8 ((sA S 28 7 (nI (qT G).1).toNatClampNeg (nI c)).1 28 8 + 1)).1 28 8 = nI ((qT G).1 + 1) := by
    rw [sI_1, if_pos rfl, sA_1, h3.1, nI_1]
  rw [e1]
  have f := ((Fr.rf (o := 28) (S := S)).A 7 (nI (qT G).1).toNatClampNeg (nI c)).I 8 ((sA S 28 7 (nI (qT G).1).toNatClampNeg (nI c)).1 28 8 + 1)
  refine hok c hc rfl (by omega) _ ?_ f
  unfold feedF
  rw [if_pos (by omega)]
  refine hG.tape f (fun k hk => by rw [sI_1, if_neg (by omega)]; rfl) (fun k hk => sA_nk _ _ _ _ _ hk) ⟨e1, fun i hi => ?_⟩
  show (sA S 28 7 (nI (qT G).1).toNatClampNeg (nI c)).2.1 28 7 i = nI (un (qT G).2 (qT G).1 c i)
  have hi : i < (qT G).1 + 1 := hi
  rw [sA_at, nI_clamp (by omega)]
  by_cases e : i = (qT G).1
  · rw [if_pos e, e, un_s]
  · rw [if_neg e, un_n _ _ e]; exact h3.2 i (by omega)
theorem z_end {x : Int32} (hG : RZ S G) (hw : wfQ G) (hbad : (∀ n, n ≤ (qT G).1 → x ≠ nI n) → K (-1) S) (hok : ∀ n, n ≤ (qT G).1 → x = nI n → ∀ S', RZ S' (endF G n) → Fr 28 S S' → K (nI (qT G).1) S') : wp_X7_end x S K := by
  have hl := hw.2.2.1.1
  have h3 := hG.2.2.1
  unfold wp_X7_end
  rw [h3.1]
  refine m_in 0 (qT G).1 (by decide) (by rw [Int32.toInt_toInt64, nI_toInt (by omega)]) (by omega) (fun n _ hn e => ⟨fun _ => nm_e (nm_e ?_), fun z => absurd z (by decide)⟩) (fun h => ⟨fun z => absurd rfl z, fun _ => hbad (fun c hc => h c (by omega) hc)⟩)
  subst e
  rw [h3.1]
  have f := (Fr.rf (o := 28) (S := S)).I 8 (nI n)
  refine hok n hn rfl _ (hG.tape (t := (n, (qT G).2)) f (fun k hk => by rw [sI_1, if_neg (by omega)]) (fun k hk => rfl) ⟨by rw [sI_1, if_pos rfl], fun i hi => h3.2 i (by have hi : i < n := hi; omega)⟩) f
theorem z_fault (hG : RZ S G) (hK : K (nI (qF G)) S) : wp_X7_fault S K := by
  unfold wp_X7_fault
  rw [hG.2.2.2.1]
  exact hK
end Z1
end
section
section Z2
variable {S : tq_St} {G : aQ} {K : Int32 → tq_St → Prop}
theorem z_p (S : tq_St) {k : Nat} (x : Int32) (hx : x = nI k) (hk : k < 168) : S.2.1 28 0 x.toNatClampNeg = pg S k := by
  subst hx
  rw [nI_clamp (by omega)]
theorem z_rule {x : Int32} (hG : RZ S G) (hw : wfQ G) (hbad : (∀ w, w ≤ 6 → x ≠ nI w) → K (-1) S) (h0 : x = 0 → K (nI (aN (qA G))) S) (h1 : x = 1 → K (nI (aM (qA G))) S) (h2 : x = 2 → K (nI (aR (qA G))) S) (h3 : x = 3 → K (nI (aT (qA G))) S) (h4 : x = 4 → K (nI (aC (qA G))) S) (h5 : x = 5 → K (wbI (aN (qA G)) (aG (qA G))) S) (h6 : x = 6 → K (nI (sorF (qA G))) S) : wp_X7_rule x S K := by
  obtain ⟨r1, r2, r3, r4, r5, r6, r7, r8, r9, r10, r11⟩ := hG.1
  unfold wp_X7_rule
  have e2 : (2 : Int32) = nI 2 := rfl
  have e4 : (4 : Int32) = nI 4 := rfl
  rw [z_p S (k := 16) 16 rfl (by decide), z_p S (k := 17) 17 rfl (by decide), z_p S (k := 18) 18 rfl (by decide), z_p S (k := 27) 27 rfl (by decide)]
  have r6 : pg S 16 = nI (aM (qA G)) := by simpa using r6
  have r7 : pg S 17 = nI (aR (qA G)) - 2 := by simpa using r7
  have r8 : pg S 18 = nI (aT (qA G)) - 4 := by simpa using r8
  have r9 : pg S 27 = nI (aC (qA G)) := by simpa using r9
  rw [r1, r6, r7, r8, r9]
  refine ⟨fun z => hbad (fun w hw e => ?_), h0, fun e => ⟨vp_in_nI (n := 16) (by decide) (by decide), h1 e⟩, fun e => ⟨vp_in_nI (n := 17) (by decide) (by decide), ?_⟩, fun e => ⟨vp_in_nI (n := 18) (by decide) (by decide), ?_⟩, fun e => ⟨vp_in_nI (n := 27) (by decide) (by decide), h4 e⟩, fun e => m_waitingOn (g := 0) hG.1 (by decide) (h5 e), fun e => m_sorrowOn (g := 0) hG.1 hw.1 (by decide) (h6 e)⟩
  · rw [e, nI_toInt (by omega)] at z
    omega
  · have h := h2 e
    rw [show nI (aR (qA G)) - 2 + 2 = nI (aR (qA G)) from i_sub_add _ 2]
    exact h
  · have h := h3 e
    rw [show nI (aT (qA G)) - 4 + 4 = nI (aT (qA G)) from i_sub_add _ 4]
    exact h
theorem z_orNone {w : Nat} (hw : w ≤ 1000) (hK : K (oW w) S) : wp_X7_orNone (nI w) S K := by
  unfold wp_X7_orNone
  unfold oW at hK
  have e0 : (0 : Int32) = nI 0 := rfl
  rw [e0, nI_eq (by omega) (by decide)]
  refine ⟨fun z => ?_, fun z => ?_⟩
  · rw [if_neg z] at hK; exact hK
  · rw [if_pos z] at hK; exact hK
theorem z_one {x y : Int32} (hG : RZ S G) (hw : wfQ G) (hbad : (∀ p, p < aN (qA G) → x ≠ nI p) ∨ (∀ w, w ≤ 4 → y ≠ nI w) → K (-1) S) (h0 : ∀ p, p < aN (qA G) → x = nI p → y = 0 → K (nI (aK (qA G) p)) S) (h1 : ∀ p, p < aN (qA G) → x = nI p → y = 1 → K (nI (aS (qA G) p)) S) (h2 : ∀ p, p < aN (qA G) → x = nI p → y = 2 → K (oW (aW (qA G) p)) S) (h3 : ∀ p, p < aN (qA G) → x = nI p → y = 3 → K (nI (brN (aK (qA G) p))) S) (h4 : ∀ p, p < aN (qA G) → x = nI p → y = 4 → K (nI (if (aG (qA G)).testBit p then 1 else 0)) S) : wp_X7_one x y S K := by
  have hn := hw.1.1
  obtain ⟨r1, r2, r3, r4, r5, r6, r7, r8, r9, r10, r11⟩ := hG.1
  unfold wp_X7_one
  refine m_isOne r1 hn (fun p hp e => ⟨fun _ => ?_, fun z => absurd z (by decide)⟩) (fun hno => ⟨fun z => absurd rfl z, fun _ => hbad (Or.inl hno)⟩)
  subst e
  have q2 : pg S p = nI (aK (qA G) p) := by have := r2 p hp; rwa [Nat.zero_add] at this
  have q3 : pg S (5 + p) = nI (aS (qA G) p) := by have := r3 p hp; rwa [Nat.zero_add] at this
  have q4 : pg S (10 + p) = nI (aW (qA G) p) := by have := r4 p hp; rwa [Nat.zero_add] at this
  have q5 : pg S 15 = nI (aG (qA G)) := by simpa using r5
  have hk := hw.1.2.1 p
  have i10 : (10 : Int32) + nI p = nI (10 + p) := nI_add 10 p
  refine ⟨fun z => hbad (Or.inr (fun w hw e => ?_)), fun z => ?_, fun z => ?_, fun z => ?_, fun z => ?_, fun z => ?_⟩
  · rw [e, nI_toInt (by omega)] at z
    omega
  · unfold wp_X7_one_44
    have e : (5 : Int32) * y + nI p = nI p := by
      subst z
      have : (5 : Int32) * 0 = nI 0 := by decide
      rw [this, nI_add, Nat.zero_add]
    rw [e, z_p S (k := p) _ rfl (by omega), q2]
    exact ⟨vp_in_nI (by omega) (by decide), h0 p hp rfl z⟩
  · unfold wp_X7_one_44
    have e : (5 : Int32) * y + nI p = nI (5 + p) := by
      subst z
      have : (5 : Int32) * 1 = nI 5 := by decide
      rw [this, nI_add]
    rw [e, z_p S (k := 5 + p) _ rfl (by omega), q3]
    exact ⟨vp_in_nI (by omega) (by decide), h1 p hp rfl z⟩
  · rw [i10, z_p S (k := 10 + p) _ rfl (by omega), q4]
    exact ⟨vp_in_nI (by omega) (by decide), z_orNone (hw.1.2.2.2.1 p) (h2 p hp rfl z)⟩
  · rw [z_p S (k := p) _ rfl (by omega), q2, nI_clamp (by omega), r11 _ hk]
    exact ⟨vp_in_nI (by omega) (by decide), vp_in_nI hk (by decide), h3 p hp rfl z⟩
  · rw [z_p S (k := 15) 15 rfl (by decide), q5, zb_val hw.1.g31 (by omega)]
    exact ⟨vp_in_nI (n := 15) (by decide) (by decide), h4 p hp rfl z⟩
theorem z_act {x : Int32} (hG : RZ S G) (hw : wfQ G) (hbad : (∀ i, i < aC (qA G) → x ≠ nI i) → K (-1) S) (hok : ∀ i, i < aC (qA G) → x = nI i → K (nI (aA (qA G) i)) S) : wp_X7_act x S K := by
  have hc := hw.1.2.2.2.2.2.2.2.2.1
  have r9 : pg S 27 = nI (aC (qA G)) := by simpa using hG.1.2.2.2.2.2.2.2.2.1
  unfold wp_X7_act
  rw [z_p S (k := 27) 27 rfl (by decide), r9]
  refine ⟨vp_in_nI (n := 27) (by decide) (by decide), m_inN (by omega) (fun i hi e => ⟨fun z => absurd z (by decide), fun _ => ?_⟩) (fun h => ⟨fun _ => hbad h, fun z => absurd rfl z⟩)⟩
  subst e
  have i19 : (19 : Int32) + nI i = nI (19 + i) := nI_add 19 i
  have q : pg S (19 + i) = nI (aA (qA G) i) := by have := hG.1.2.2.2.2.2.2.2.2.2.1 i hi; rwa [Nat.zero_add] at this
  rw [i19, z_p S (k := 19 + i) _ rfl (by omega), q]
  exact ⟨vp_in_nI (by omega) (by decide), hok i hi rfl⟩
theorem z_queue_26 {n : Nat} (hG : RZ S G) (hw : wfQ G) (hn : n ≤ 4) (hK : K (oI (nextF (qA G) (selB (qA G) n))) S) : ∀ (m i f : Nat), i + m = n → m < f → wp_X7_queue_26 K f (nI n) (nI (selB (qA G) i)) (oI (nextF (qA G) (selB (qA G) i))) (nI i) S
  | 0, i, f + 1, h1, h2 => by
    unfold wp_X7_queue_26
    refine pk_le n i (fun _ => ?_) (fun z => absurd z (by omega))
    rw [show i = n by omega]
    exact hK
  | m + 1, i, f + 1, h1, h2 => by
    have hn5 := hw.1.1
    have h32 := zb_p31 hn5
    have hb := selB_lt (qA G) i
    have ih := z_queue_26 hG hw hn hK m (i + 1) f (by omega) (by omega)
    unfold wp_X7_queue_26
    refine pk_le n i (fun z => absurd z (by omega)) (fun _ => ?_)
    cases e : nextF (qA G) (selB (qA G) i) with
    | none =>
      refine ⟨fun _ => ?_, fun z => absurd rfl z⟩
      -- none now, none later
      have hst : ∀ k, selB (qA G) (i + k) = selB (qA G) i := by
        intro k
        induction k with
        | zero => rfl
        | succ k ihk =>
          show (match nextF (qA G) (selB (qA G) (i + k)) with | none => selB (qA G) (i + k) | some p => selB (qA G) (i + k) ||| 2 ^ p) = _
          rw [ihk, e]
      have h9 := hst (n - i)
      rw [show i + (n - i) = n by omega] at h9
      rw [h9, e] at hK
      exact hK
    | some q =>
      have hq := (next_lt e).1
      refine ⟨fun z => absurd z (oI_ne (by omega)), fun _ => nm_r (zb_or (by omega)) ?_⟩
      have e3 : selB (qA G) (i + 1) = selB (qA G) i ||| 2 ^ q := by
        show (match nextF (qA G) (selB (qA G) i) with | none => selB (qA G) i | some p => selB (qA G) i ||| 2 ^ p) = _
        rw [e]
      have hb2 := selB_lt (qA G) (i + 1)
      rw [e3] at ih hb2
      exact m_nextOn (g := 0) hG.1 hw.1 (by decide) (by omega) (nm_r (nI_1 i) ih)
theorem z_queue {x : Int32} (hG : RZ S G) (hw : wfQ G) (hbad : (∀ i, i < 5 → x ≠ nI i) → K (-1) S) (hok : ∀ i, i < 5 → x = nI i → K (oI (nextF (qA G) (selB (qA G) i))) S) : wp_X7_queue x S K := by
  unfold wp_X7_queue
  refine m_in 0 4 (by decide) (by decide) (by decide) (fun i _ hi e => ⟨fun _ => ?_, fun z => absurd z (by decide)⟩) (fun h => ⟨fun z => absurd rfl z, fun _ => hbad (fun c hc => h c (by omega) (by omega))⟩)
  subst e
  refine m_nextOn (g := 0) (but := 0) hG.1 hw.1 (by decide) (by decide) ?_
  exact z_queue_26 hG hw hi (hok i (by omega) rfl) i 0 2000 (by omega) (by omega)
theorem z_puts1 {y v w : Int32} {k : Nat} (hk : k < 168) (hy : y = nI k) (hK : K (pg S k + w) (sA S 28 0 k (v - w))) : wp_X7_puts 1 y v w S K := by
  unfold wp_X7_puts
  subst hy
  rw [z_p S (k := k) _ rfl hk, nI_clamp (by omega)]
  exact ⟨fun _ => ⟨vp_in_nI hk (by decide), nm_e ⟨vp_in_nI hk (by decide), nm_e hK⟩⟩, fun z => absurd z (by decide)⟩
theorem z_puts0 {y v w : Int32} (hK : K (-1) S) : wp_X7_puts 0 y v w S K := ⟨fun z => absurd rfl z, fun _ => hK⟩
theorem z_room {x : Int32} (hG : RZ S G) (hw : wfQ G) (hbad : (∀ v, 1 ≤ v → v ≤ 5 → x ≠ nI v) → K (-1) S) (hok : ∀ v, 1 ≤ v → v ≤ 5 → x = nI v → ∀ S', RZ S' (vA G (uR (qA G) v)) → Fr 28 S S' → K (nI (aR (qA G))) S') : wp_X7_room x S K := by
  have hc := hw.1.2.2.2.2.2.2.2.2.1
  have r7 : pg S 17 = nI (aR (qA G)) - 2 := by simpa using hG.1.2.2.2.2.2.2.1
  unfold wp_X7_room
  refine m_in 1 5 (by decide) (by decide) (by decide) (fun v hv1 hv2 e => z_puts1 (k := 17) (by decide) rfl ?_) (fun h => z_puts0 (hbad h))
  subst e
  rw [r7, show nI (aR (qA G)) - 2 + 2 = nI (aR (qA G)) from i_sub_add _ 2]
  have f : FM 0 S (sA S 28 0 17 (nI v - 2)) := FM.rf.a (by decide) _
  have hR : RM (sA S 28 0 (0 + 17) (nI v - 2)) 0 (uR (qA G) v) := hG.1.n hw.1.1 hc (j := 17) (by omega) rfl rfl rfl rfl rfl rfl rfl rfl rfl rfl
  rw [Nat.zero_add] at hR
  exact hok v hv1 hv2 rfl _ (hG.now hw f hR) f.fr
theorem z_think {x : Int32} (hG : RZ S G) (hw : wfQ G) (hbad : (∀ v, 1 ≤ v → v ≤ 9 → x ≠ nI v) → K (-1) S) (hok : ∀ v, 1 ≤ v → v ≤ 9 → x = nI v → ∀ S', RZ S' (vA G (uT (qA G) v)) → Fr 28 S S' → K (nI (aT (qA G))) S') : wp_X7_think x S K := by
  have hc := hw.1.2.2.2.2.2.2.2.2.1
  have r8 : pg S 18 = nI (aT (qA G)) - 4 := by simpa using hG.1.2.2.2.2.2.2.2.1
  unfold wp_X7_think
  refine m_in 1 9 (by decide) (by decide) (by decide) (fun v hv1 hv2 e => z_puts1 (k := 18) (by decide) rfl ?_) (fun h => z_puts0 (hbad h))
  subst e
  rw [r8, show nI (aT (qA G)) - 4 + 4 = nI (aT (qA G)) from i_sub_add _ 4]
  have f : FM 0 S (sA S 28 0 18 (nI v - 4)) := FM.rf.a (by decide) _
  have hR : RM (sA S 28 0 (0 + 18) (nI v - 4)) 0 (uT (qA G) v) := hG.1.n hw.1.1 hc (j := 18) (by omega) rfl rfl rfl rfl rfl rfl rfl rfl rfl rfl
  rw [Nat.zero_add] at hR
  exact hok v hv1 hv2 rfl _ (hG.now hw f hR) f.fr
theorem RM.c {S : tq_St} {g : Nat} {A : aE} (h : RM S g A) (hn : aN A ≤ 5) {n : Nat} (hn2 : n ≤ aC A) (hc : aC A ≤ 8) : RM (sA S 28 0 (g + 27) (nI n)) g (uP A n (aA A)) := by
  obtain ⟨h1, h2, h3, h4, h5, h6, h7, h8, h9, h10, h11⟩ := h
  refine ⟨h1, fun q hq => ?_, fun q hq => ?_, fun q hq => ?_, ?_, ?_, ?_, ?_, ?_, fun i hi => ?_, fun k hk => ?_⟩
  · have hq : q < aN A := hq
    rw [pg_at, if_neg (by omega)]; exact h2 q hq
  · have hq : q < aN A := hq
    rw [pg_at, if_neg (by omega)]; exact h3 q hq
  · have hq : q < aN A := hq
    rw [pg_at, if_neg (by omega)]; exact h4 q hq
  · rw [pg_at, if_neg (by omega)]; exact h5
  · rw [pg_at, if_neg (by omega)]; exact h6
  · rw [pg_at, if_neg (by omega)]; exact h7
  · rw [pg_at, if_neg (by omega)]; exact h8
  · rw [pg_at, if_pos rfl]
  · have hi : i < n := hi
    rw [pg_at, if_neg (by omega)]; exact h10 i (by omega)
  · rw [sA_nk _ _ _ _ _ (by decide)]; exact h11 k hk
theorem z_cut {x : Int32} (hG : RZ S G) (hw : wfQ G) (hbad : (∀ n, n ≤ aC (qA G) → x ≠ nI n) → K (-1) S) (hok : ∀ n, n ≤ aC (qA G) → x = nI n → ∀ S', RZ S' (vA G (uP (qA G) n (aA (qA G)))) → Fr 28 S S' → K (nI (aC (qA G))) S') : wp_X7_cut x S K := by
  have hc := hw.1.2.2.2.2.2.2.2.2.1
  have r9 : pg S 27 = nI (aC (qA G)) := by simpa using hG.1.2.2.2.2.2.2.2.2.1
  unfold wp_X7_cut
  rw [z_p S (k := 27) 27 rfl (by decide), r9]
  refine ⟨vp_in_nI (n := 27) (by decide) (by decide), m_in 0 (aC (qA G)) (by decide) (by rw [Int32.toInt_toInt64, nI_toInt (by omega)]) (by omega) (fun n _ hn e => z_puts1 (k := 27) (by decide) rfl ?_) (fun h => z_puts0 (hbad (fun n hn => h n (by omega) hn)))⟩
  subst e
  rw [r9, show nI (aC (qA G)) + 0 = nI (aC (qA G)) from i_add0 _, i_sub0]
  have f : FM 0 S (sA S 28 0 27 (nI n)) := FM.rf.a (by decide) _
  have hR := hG.1.c hw.1.1 hn hc
  rw [Nat.zero_add] at hR
  exact hok n hn rfl _ (hG.now hw f hR) f.fr
theorem z_alter {x y v : Int32} (hG : RZ S G) (hw : wfQ G) (hbad : (∀ p k, p < aN (qA G) → x = nI p → v = nI k → ¬ (y = 0 ∧ k < 4) ∧ ¬ (y = 1 ∧ k ≤ 40)) → K (-1) S) (hk : ∀ p k, p < aN (qA G) → x = nI p → y = 0 → k < 4 → v = nI k → ∀ S', RZ S' (vA G (alterK (qA G) p k)) → Fr 28 S S' → K (nI (aK (qA G) p)) S') (hs : ∀ p k, p < aN (qA G) → x = nI p → y = 1 → k ≤ 40 → v = nI k → ∀ S', RZ S' (vA G (alterS (qA G) p k)) → Fr 28 S S' → K (nI (aS (qA G) p)) S') : wp_X7_alter x y v S K := by
  have hn := hw.1.1
  have hc := hw.1.2.2.2.2.2.2.2.2.1
  have h46 : K (-1) S → wp_X7_alter_46 K x y v S := fun h => z_puts0 h
  unfold wp_X7_alter
  refine m_isOne hG.1.1 hn (fun p hp e => ⟨fun z => absurd z (by decide), fun _ => ?_⟩) (fun hno => ⟨fun _ => h46 (hbad (fun p k hp e => absurd e (hno p hp))), fun z => absurd rfl z⟩)
  subst e
  have h25 : (∀ k, k < 4 → v = nI k → ¬ y = 0) → wp_X7_alter_25 K (nI p) y v S := by
    intro hno
    unfold wp_X7_alter_25
    refine ⟨fun z => h46 (hbad (fun p' k' hp' e e2 => ⟨fun c => hno k' c.2 e2 c.1, fun c => z c.1⟩)), fun z => ?_⟩
    refine m_in 0 40 (by decide) (by decide) (by decide) (fun k _ hk40 e => ⟨fun z => absurd z (by decide), fun _ => ?_⟩) (fun h => ⟨fun _ => h46 (hbad (fun p' k' hp' e e2 => ⟨fun c => hno k' c.2 e2 c.1, fun c => h k' (by omega) c.2 e2⟩)), fun z => absurd rfl z⟩)
    subst e
    unfold wp_X7_alter_42 wp_X7_alter_47
    have e5 : (5 : Int32) * y + nI p = nI (5 + p) := by
      subst z
      have : (5 : Int32) * 1 = nI 5 := by decide
      rw [this, nI_add]
    refine z_puts1 (k := 5 + p) (by omega) e5 ?_
    have q3 : pg S (5 + p) = nI (aS (qA G) p) := by have := hG.1.2.2.1 p hp; rwa [Nat.zero_add] at this
    rw [q3, show nI (aS (qA G) p) + 0 = nI (aS (qA G) p) from i_add0 _, i_sub0]
    have f : FM 0 S (sA S 28 0 (5 + p) (nI k)) := FM.rf.a (by omega) _
    have hR := hG.1.s hn hc (p := p) hp k
    rw [Nat.zero_add] at hR
    exact hs p k hp rfl z hk40 rfl _ (hG.now hw f hR) f.fr
  refine ⟨fun z => h25 (fun k _ _ => z), fun z => ?_⟩
  refine m_in 0 3 (by decide) (by decide) (by decide) (fun k _ hk3 e => ⟨fun _ => ?_, fun z => absurd z (by decide)⟩) (fun h => ⟨fun z => absurd rfl z, fun _ => h25 (fun k hk4 e => absurd e (h k (by omega) (by omega)))⟩)
  subst e
  unfold wp_X7_alter_42 wp_X7_alter_47
  have e5 : (5 : Int32) * y + nI p = nI p := by
    subst z
    have : (5 : Int32) * 0 = nI 0 := by decide
    rw [this, nI_add, Nat.zero_add]
  refine z_puts1 (k := p) (by omega) e5 ?_
  have q2 : pg S p = nI (aK (qA G) p) := by have := hG.1.2.1 p hp; rwa [Nat.zero_add] at this
  rw [q2, show nI (aK (qA G) p) + 0 = nI (aK (qA G) p) from i_add0 _, i_sub0]
  have f : FM 0 S (sA S 28 0 p (nI k)) := FM.rf.a (by omega) _
  have hR := hG.1.k hn hc (p := p) hp k
  rw [Nat.zero_add] at hR
  exact hk p k hp rfl z (by omega) rfl _ (hG.now hw f hR) f.fr
theorem RM.pl {S : tq_St} {A : aE} {g : Nat} (h : RM S g A) (hn : aN A ≤ 5) (hc : aC A < 8) (a : Nat) : RM (sA (sA S 28 0 (g + 19 + aC A) (nI a)) 28 0 (g + 27) (nI (aC A + 1))) g (planA A a) := by
  obtain ⟨h1, h2, h3, h4, h5, h6, h7, h8, h9, h10, h11⟩ := h
  refine ⟨h1, fun q hq => ?_, fun q hq => ?_, fun q hq => ?_, ?_, ?_, ?_, ?_, ?_, fun i hi => ?_, fun k hk => ?_⟩
  · have hq : q < aN A := hq
    rw [pg_at, if_neg (by omega), pg_at, if_neg (by omega)]; exact h2 q hq
  · have hq : q < aN A := hq
    rw [pg_at, if_neg (by omega), pg_at, if_neg (by omega)]; exact h3 q hq
  · have hq : q < aN A := hq
    rw [pg_at, if_neg (by omega), pg_at, if_neg (by omega)]; exact h4 q hq
  · rw [pg_at, if_neg (by omega), pg_at, if_neg (by omega)]; exact h5
  · rw [pg_at, if_neg (by omega), pg_at, if_neg (by omega)]; exact h6
  · rw [pg_at, if_neg (by omega), pg_at, if_neg (by omega)]; exact h7
  · rw [pg_at, if_neg (by omega), pg_at, if_neg (by omega)]; exact h8
  · rw [pg_at, if_pos rfl]; rfl
  · have hi : i < aC A + 1 := hi
    show _ = nI (un (aA A) (aC A) a i)
    rw [pg_at, if_neg (by omega), pg_at]
    by_cases e : i = aC A
    · rw [if_pos (by omega), e, un_s]
    · rw [if_neg (by omega), un_n _ _ e]; exact h10 i (by omega)
  · rw [sA_nk _ _ _ _ _ (by decide), sA_nk _ _ _ _ _ (by decide)]; exact h11 k hk
theorem z_plan {x : Int32} (hG : RZ S G) (hw : wfQ G) (hbad : (∀ a, okA (aN (qA G)) a → x ≠ nI a) → K (-1) S) (hok : ∀ a, okA (aN (qA G)) a → x = nI a → aC (qA G) < 8 → ∀ S', RZ S' (vA G (planA (qA G) a)) → Fr 28 S S' → K (nI (aC (qA G) + 1)) S') (hfull : ∀ a, okA (aN (qA G)) a → x = nI a → aC (qA G) = 8 → K (-3) S) : wp_X7_plan x S K := by
  have hn := hw.1.1
  have hc := hw.1.2.2.2.2.2.2.2.2.1
  have r9 : pg S 27 = nI (aC (qA G)) := by simpa using hG.1.2.2.2.2.2.2.2.2.1
  have i27 : vp_in 27 168 := vp_in_nI (n := 27) (by decide) (by decide)
  have c27 : (27 : Int32).toNatClampNeg = 27 := by decide
  unfold wp_X7_plan
  refine m_isAct hG.1.1 hn (fun a ha e => ⟨fun _ => ⟨i27, ?_⟩, fun z => absurd z (by decide)⟩) (fun hno => ⟨fun z => absurd rfl z, fun _ => hbad hno⟩)
  subst e
  have r9' : S.2.1 28 0 27 = nI (aC (qA G)) := r9
  have e8 : (8 : Int32) = nI 8 := rfl
  rw [c27, r9', e8, nI_eq (by omega) (by decide)]
  refine ⟨fun hne => ?_, fun e => hfull a ha rfl e⟩
  have i19 : (19 : Int32) + nI (aC (qA G)) = nI (19 + aC (qA G)) := nI_add 19 _
  rw [i19, nI_clamp (by omega)]
  refine ⟨i27, vp_in_nI (by omega) (by decide), nm_e ⟨i27, i27, ?_⟩⟩
  have e27 : (sA S 28 0 (19 + aC (qA G)) (nI a)).2.1 28 0 27 = nI (aC (qA G)) := by rw [sA_at, if_neg (by omega)]; exact r9
  rw [e27, nI_1]
  refine nm_e ⟨i27, ?_⟩
  rw [sA_at, if_pos rfl]
  have f : FM 0 S (sA (sA S 28 0 (19 + aC (qA G)) (nI a)) 28 0 27 (nI (aC (qA G) + 1))) := (FM.rf.a (by omega) _).a (by decide) _
  have hR := hG.1.pl hn (by omega) a
  rw [Nat.zero_add, Nat.zero_add] at hR
  exact hok a ha rfl (by omega) _ (hG.now hw f hR) f.fr
theorem z_thinks {x : Int32} (hG : RZ S G) (hw : wfQ G) (hbad : (∀ p, p < aN (qA G) → x ≠ nI p) → K (-1) S) (hst : ∀ p, p < aN (qA G) → x = nI p → (aG (qA G)).testBit p = true → K (-2) S) (hok : ∀ p, p < aN (qA G) → x = nI p → (aG (qA G)).testBit p = false → ∀ S', RZ S' (vA G (thinkF (qA G) p)) → Fr 28 S S' → K (nI (tkF (qA G) p).2.2) S') : wp_X7_thinks x S K := by
  have hn := hw.1.1
  unfold wp_X7_thinks
  refine m_isOne hG.1.1 hn (fun p hp e => ⟨fun _ => ?_, fun z => absurd z (by decide)⟩) (fun hno => ⟨fun z => absurd rfl z, fun _ => hbad hno⟩)
  subst e
  refine m_waits (g := 0) hG.1.2.2.2.2.1 (by decide) hw.1.g31 (by omega) (fun hb => ⟨fun z => absurd z (by decide), fun _ => ?_⟩) (fun hb => ⟨fun _ => hst p hp rfl hb, fun z => absurd rfl z⟩)
  exact m_thinksOn (g := 0) hG.1 hw.1 (by decide) hp (fun S' a1 a2 => hok p hp rfl hb S' (hG.now hw a2 a1) a2.fr)
theorem z_minutes_16 {n : Nat} (hn : n ≤ 60) : ∀ (m i f : Nat) (G : aQ) (S S0 : tq_St), i + m = n → m < f → RZ S G → wfQ G → Fr 28 S0 S → (∀ S', RZ S' (vA G (dryN m (qA G))) → Fr 28 S0 S' → K (nI (sorF (dryN m (qA G)))) S') → wp_X7_minutes_16 K f (nI n) (nI i) S
  | 0, i, f + 1, G, S, S0, h1, h2, hG, hw, hF, hK => by
    unfold wp_X7_minutes_16
    exact pk_le n i (fun _ => m_sorrowOn (g := 0) hG.1 hw.1 (by decide) (hK S hG hF)) (fun z => absurd z (by omega))
  | m + 1, i, f + 1, G, S, S0, h1, h2, hG, hw, hF, hK => by
    unfold wp_X7_minutes_16
    refine pk_le n i (fun z => absurd z (by omega)) (fun _ => ?_)
    refine m_minuteOn (g := 0) hG.1 hw.1 (by decide) (fun S' a1 a2 => nm_r (nI_1 i) ?_)
    exact z_minutes_16 hn m (i + 1) f (vA G (dryF (qA G))) S' S0 (by omega) (by omega) (hG.now hw a2 a1) (hw.now (dryF_wf hw.1) rfl) (hF.tr a2.fr) hK
theorem z_minutes {x : Int32} (hG : RZ S G) (hw : wfQ G) (hbad : (∀ n, n ≤ 60 → x ≠ nI n) → K (-1) S) (hok : ∀ n, n ≤ 60 → x = nI n → ∀ S', RZ S' (vA G (dryN n (qA G))) → Fr 28 S S' → K (nI (sorF (dryN n (qA G)))) S') : wp_X7_minutes x S K := by
  unfold wp_X7_minutes
  refine m_in 0 60 (by decide) (by decide) (by decide) (fun n _ hn e => ⟨fun _ => ?_, fun z => absurd z (by decide)⟩) (fun h => ⟨fun z => absurd rfl z, fun _ => hbad (fun n hn => h n (by omega) hn)⟩)
  subst e
  exact z_minutes_16 hn n 0 2000 G S S (by omega) (by omega) hG hw Fr.rf (hok n hn rfl)
theorem z_tram (hG : RZ S G) (hw : wfQ G) (hok : ∀ S', RZ S' (vA G (boardF (qA G))) → Fr 28 S S' → K (nI (tramB (qA G))) S') : wp_X7_tram S K := by
  unfold wp_X7_tram
  exact m_tramOn (g := 0) hG.1 hw.1 (by decide) (fun S' a1 a2 => hok S' (hG.now hw a2 a1) a2.fr)
theorem z_joy {x : Int32} (hG : RZ S G) (hw : wfQ G) (hbad : (∀ p, p < aN (qA G) → x ≠ nI p) → K (-1) S) (hst : ∀ p, p < aN (qA G) → x = nI p → (aG (qA G)).testBit p = true → K (-2) S) (hok : ∀ p, p < aN (qA G) → x = nI p → (aG (qA G)).testBit p = false → ∀ S', RZ S' (vA G (joyF (qA G) p)) → Fr 28 S S' → K (nI (aS (qA G) p)) S') : wp_X7_joy x S K := by
  have hn := hw.1.1
  have hc := hw.1.2.2.2.2.2.2.2.2.1
  unfold wp_X7_joy
  refine m_isOne hG.1.1 hn (fun p hp e => ⟨fun _ => ?_, fun z => absurd z (by decide)⟩) (fun hno => ⟨fun z => absurd rfl z, fun _ => hbad hno⟩)
  subst e
  refine m_waits (g := 0) hG.1.2.2.2.2.1 (by decide) hw.1.g31 (by omega) (fun hb => ⟨fun _ => ?_, fun z => absurd z (by decide)⟩) (fun hb => ⟨fun z => absurd rfl z, fun _ => hst p hp rfl hb⟩)
  have i5 : (5 : Int32) + nI p = nI (5 + p) := nI_add 5 p
  have i10 : (10 : Int32) + nI p = nI (10 + p) := nI_add 10 p
  have q3 : S.2.1 28 0 (5 + p) = nI (aS (qA G) p) := by have := hG.1.2.2.1 p hp; rwa [Nat.zero_add] at this
  rw [i5, i10, nI_clamp (n := 5 + p) (by omega), nI_clamp (n := 10 + p) (by omega), q3]
  have v5 : vp_in (nI (5 + p)) 168 := vp_in_nI (by omega) (by decide)
  refine ⟨v5, nm_e ⟨v5, nm_e ⟨vp_in_nI (by omega) (by decide), nm_e ?_⟩⟩⟩
  have f : FM 0 S (sA (sA S 28 0 (5 + p) 0) 28 0 (10 + p) 0) := (FM.rf.a (by omega) _).a (by omega) _
  have hR1 := hG.1.s hn hc (p := p) hp 0
  have hR := hR1.w hn hc (p := p) hp 0
  rw [Nat.zero_add, Nat.zero_add] at hR
  exact hok p hp rfl hb _ (hG.now hw f hR) f.fr
theorem z_second (hG : RZ S G) (hw : wfQ G) (hok : ∀ S', RZ S' (vA G (uG (qA G) 0)) → Fr 28 S S' → K (nI (pcN (aG (qA G)))) S') : wp_X7_second S K := by
  have hc := hw.1.2.2.2.2.2.2.2.2.1
  have hgl := hw.1.gl
  have q5 : S.2.1 28 0 15 = nI (aG (qA G)) := by simpa using hG.1.2.2.2.2.1
  have c15 : (15 : Int32).toNatClampNeg = 15 := by decide
  have v15 : vp_in 15 168 := vp_in_nI (n := 15) (by decide) (by decide)
  unfold wp_X7_second
  rw [c15, q5]
  refine ⟨v15, m_bitsOf (by omega) ⟨v15, nm_e ?_⟩⟩
  have f : FM 0 S (sA S 28 0 15 0) := FM.rf.a (by decide) _
  have hR : RM (sA S 28 0 (0 + 15) 0) 0 (uG (qA G) 0) := hG.1.n hw.1.1 hc (j := 15) (by omega) rfl rfl rfl rfl rfl rfl rfl rfl rfl rfl
  rw [Nat.zero_add] at hR
  exact hok _ (hG.now hw f hR) f.fr
end Z2
end
section
section Z3
variable {S : tq_St} {G : aQ} {K : Int32 → tq_St → Prop}
theorem planM_0 (A : aE) : planM A 0 = planR A := goM_0 (aA A) (aC A) 0 A (0, 0, none)
theorem z_plan0 {A : aE} {g : Nat} {K : tq_St → Prop} (hR : RM S g A) (hw : wfE A) (hg : g + 28 ≤ 112 ∨ g = 140) (hK : ∀ S', RM S' 112 (planR A).1 → TM S' (planR A).2 → FT S S' → K S') : wp_X7_planGoes (nI g) 0 S K :=
  m_planGoes (but := 0) hR hw hg (by decide) (fun S' a b c => hK S' (by rw [← planM_0]; exact a) (by rw [← planM_0]; exact b) c)
theorem z_runs {x : Int32} (hG : RZ S G) (hw : wfQ G) (hbad : (∀ w, w ≤ 4 → x ≠ nI w) → K (-1) S) (h0 : x = 0 → ∀ S', RZ S' G → Fr 28 S S' → K (nI (aG (planR (qA G)).1)) S') (h1 : x = 1 → ∀ S', RZ S' G → Fr 28 S S' → K (nI (planR (qA G)).2.1) S') (h2 : x = 2 → ∀ S', RZ S' G → Fr 28 S S' → K (nI (planR (qA G)).2.2.1) S') (h3 : x = 3 → ∀ S', RZ S' G → Fr 28 S S' → K (oI (planR (qA G)).2.2.2) S') (h4 : x = 4 → ∀ S', RZ S' G → Fr 28 S S' → K (nI (sorF (planR (qA G)).1)) S') : wp_X7_runs x S K := by
  unfold wp_X7_runs
  refine m_in 0 4 (by decide) (by decide) (by decide) (fun w _ hw4 e => ⟨fun _ => ?_, fun z => absurd z (by decide)⟩) (fun h => ⟨fun z => absurd rfl z, fun _ => hbad (fun c hc => h c (by omega) hc)⟩)
  refine z_plan0 (g := 0) hG.1 hw.1 (by omega) (fun S' a1 a2 a3 => ?_)
  have hG' := hG.fz hw a3.fz
  have hF := a3.fr
  have q127 : S'.2.1 28 0 (127 : Int32).toNatClampNeg = nI (aG (planR (qA G)).1) := a1.2.2.2.2.1
  rw [q127, a2.1, a2.2.1, a2.2.2]
  refine ⟨fun c => m_sorrowOn (g := 112) a1 (planR_ok hw.1).1 (by decide) (h4 ?_ S' hG' hF), fun e => ⟨vp_in_nI (n := 127) (by decide) (by decide), h0 e S' hG' hF⟩, fun e => h1 e S' hG' hF, fun e => h2 e S' hG' hF, fun e => h3 e S' hG' hF⟩
  rw [e, nI_toInt (by omega)] at c
  rw [e, show w = 4 by omega]
  rfl
theorem z_ahead {x y : Int32} (hG : RZ S G) (hw : wfQ G) (hbad : (∀ p, p < aN (qA G) → x ≠ nI p) ∨ (∀ w, w ≤ 1 → y ≠ nI w) → K (-1) S) (h0 : ∀ p, p < aN (qA G) → x = nI p → y = 0 → ∀ S', RZ S' G → Fr 28 S S' → K (nI (aS (planR (qA G)).1 p)) S') (h1 : ∀ p, p < aN (qA G) → x = nI p → y = 1 → ∀ S', RZ S' G → Fr 28 S S' → K (oW (aW (planR (qA G)).1 p)) S') : wp_X7_ahead x y S K := by
  have hn := hw.1.1
  unfold wp_X7_ahead
  refine m_isOne hG.1.1 hn (fun p hp e => ⟨fun z => absurd z (by decide), fun _ => ?_⟩) (fun hno => ⟨fun _ => hbad (Or.inl hno), fun z => absurd rfl z⟩)
  subst e
  refine m_in 0 1 (by decide) (by decide) (by decide) (fun w _ hw1 e => ⟨fun _ => ?_, fun z => absurd z (by decide)⟩) (fun h => ⟨fun z => absurd rfl z, fun _ => hbad (Or.inr (fun c hc => h c (by omega) hc))⟩)
  subst e
  refine z_plan0 (g := 0) hG.1 hw.1 (by omega) (fun S' a1 a2 a3 => ?_)
  have hp2 : p < aN (planR (qA G)).1 := by rw [(planR_ok hw.1).2]; exact hp
  have hwp := (planR_ok hw.1).1
  have i1 : (122 : Int32) + nI p = nI (112 + 10 + p) := nI_add 122 p
  have i2 : (117 : Int32) + nI p = nI (112 + 5 + p) := nI_add 117 p
  rw [i1, i2, nI_clamp (n := 112 + 10 + p) (by omega), nI_clamp (n := 112 + 5 + p) (by omega)]
  have q1 : S'.2.1 28 0 (112 + 10 + p) = nI (aW (planR (qA G)).1 p) := a1.2.2.2.1 p hp2
  have q2 : S'.2.1 28 0 (112 + 5 + p) = nI (aS (planR (qA G)).1 p) := a1.2.2.1 p hp2
  rw [q1, q2]
  have hw01 : w = 0 ∨ w = 1 := by omega
  refine ⟨fun z => ⟨vp_in_nI (by omega) (by decide), ?_⟩, fun z => ⟨vp_in_nI (by omega) (by decide), h0 p hp rfl z S' (hG.fz hw a3.fz) a3.fr⟩⟩
  have e1 : w = 1 := by rcases hw01 with c | c; exact absurd (by rw [c]; rfl) z; exact c
  exact z_orNone (hwp.2.2.2.1 p) (h1 p hp rfl (by rw [e1]; rfl) S' (hG.fz hw a3.fz) a3.fr)
-- HOW SOON
theorem z_soon_17 {S0 : tq_St} {p : Nat} (hG0 : RZ S0 G) (hw0 : wfQ G) (hp : p < aN (qA G)) (hb : (aG (qA G)).testBit p = false) : ∀ (m i f : Nat) (A : aE) (t : aY) (S : tq_St), i + m = 10 → m < f → wfE A → aN A = aN (qA G) → aG A = aG (qA G) → RM S 112 A → TM S t → FT S0 S → (∀ S', FT S0 S' → K (oI (soonL p m i A)) S') → wp_X7_soon_17 K f (nI p) (nI i) S
  | 0, i, f + 1, A, t, S, h1, h2, hw, hN, hg, hR, hT, hF, hK => by
    unfold wp_X7_soon_17
    exact pk_lt 9 i (fun _ => hK S hF) (fun z => absurd z (by omega))
  | m + 1, i, f + 1, A, t, S, h1, h2, hw, hN, hg, hR, hT, hF, hK => by
    have hn := hw.1
    unfold wp_X7_soon_17
    refine pk_lt 9 i (fun z => absurd z (by omega)) (fun _ => ?_)
    have hG := hG0.fz hw0 hF.fz
    refine m_waits (g := 0) hG.1.2.2.2.2.1 (by decide) hw0.1.g31 (by omega) (fun _ => ⟨fun z => absurd z (by decide), fun _ => ?_⟩) (fun hb2 => by rw [hb] at hb2; cases hb2)
    refine m_nextOn (g := 112) (but := 0) hR hw (by decide) (by decide) ?_
    unfold soonL at hK
    refine ⟨fun z => ?_, fun z => ?_⟩
    · have hne : ¬ nextF A 0 = some p := fun e => z (by rw [e]; rfl)
      rw [if_neg hne] at hK
      refine m_acts (t := t) hR hw (Or.inl (by rw [hN]; exact hp)) hT (fun S2 b1 b2 b3 => nm_r (nI_1 i) ?_)
      have e : playF A p = thinkF A p := by
        unfold playF
        rw [if_neg (by omega), if_neg (by omega), if_neg (by rw [hg, hb]; decide)]
      rw [e] at b1
      exact z_soon_17 hG0 hw0 hp hb m (i + 1) f (thinkF A p) _ S2 (by omega) (by omega) (thinkF_wf hw p).1 hN hg b1 b3 (hF.tr b2) hK
    · have he : nextF A 0 = some p := by
        cases e : nextF A 0 with
        | none => rw [e] at z; exact absurd z.symm (oI_ne (by omega))
        | some q =>
          rw [e] at z
          have hq := (next_lt e).1
          have : q = p := (nI_eq (by omega) (by omega)).mp z
          rw [this]
      rw [if_pos he] at hK
      exact hK S hF
theorem z_soon {x : Int32} (hG : RZ S G) (hw : wfQ G) (hbad : (∀ p, p < aN (qA G) → x ≠ nI p) → K (-1) S) (hst : ∀ p, p < aN (qA G) → x = nI p → (aG (qA G)).testBit p = true → ∀ S', RZ S' G → Fr 28 S S' → K (-4) S') (hok : ∀ p, p < aN (qA G) → x = nI p → (aG (qA G)).testBit p = false → ∀ S', RZ S' G → Fr 28 S S' → K (oI (soonL p 10 0 (qA G))) S') : wp_X7_soon x S K := by
  have hn := hw.1.1
  unfold wp_X7_soon
  refine m_isOne hG.1.1 hn (fun p hp e => ⟨fun _ => ?_, fun z => absurd z (by decide)⟩) (fun hno => ⟨fun z => absurd rfl z, fun _ => hbad hno⟩)
  subst e
  refine m_begins (g := 0) hG.1 hw.1 (by omega) (fun S1 a1 a2 a3 => ?_)
  have hG1 := hG.fz hw a2.fz
  cases hb : (aG (qA G)).testBit p
  · exact z_soon_17 hG hw hp hb 10 0 2000 (qA G) _ S1 (by omega) (by omega) hw.1 rfl rfl a1 a3 a2 (fun S' f => hok p hp rfl hb S' (hG.fz hw f.fz) f.fr)
  · show wp_X7_soon_17 K (1999 + 1) (nI p) (nI 0) S1
    unfold wp_X7_soon_17
    refine pk_lt 9 0 (fun z => absurd z (by omega)) (fun _ => ?_)
    refine m_waits (g := 0) hG1.1.2.2.2.2.1 (by decide) hw.1.g31 (by omega) (fun hb2 => by rw [hb] at hb2; cases hb2) (fun _ => ⟨fun _ => hst p hp rfl hb S1 hG1 a2.fr, fun z => absurd rfl z⟩)
-- ROOM ENOUGH
theorem FZ.a {T : tq_St} (h : FZ S T) {i : Nat} (hi : 84 ≤ i) (v : Int32) : FZ S (sA T 28 0 i v) :=
  h.tr ⟨Fr.rf.A _ _ _, fun k hk => rfl, fun k a _ _ => sA_nk _ _ _ _ _ a, fun j hj => by rw [pg_at, if_neg (by omega)]⟩
theorem z_enough_2 {S0 : tq_St} (hG0 : RZ S0 G) (hw : wfQ G) : ∀ (m v f : Nat) (S : tq_St), v + m = 6 → 1 ≤ v → m < f → FZ S0 S → (∀ S', FZ S0 S' → K (oI (enoL (qA G) m v)) S') → wp_X7_enough_2 K f (nI v) S
  | 0, v, f + 1, S, h1, h1b, h2, hF, hK => by
    unfold wp_X7_enough_2
    exact pk_lt 5 v (fun _ => hK S hF) (fun z => absurd z (by omega))
  | m + 1, v, f + 1, S, h1, h1b, h2, hF, hK => by
    have hn := hw.1.1
    have hc := hw.1.2.2.2.2.2.2.2.2.1
    unfold wp_X7_enough_2
    refine pk_lt 5 v (fun z => absurd z (by omega)) (fun _ => ?_)
    have hG := hG0.fz hw hF
    refine m_copies (a := 0) (b := 140) (by decide) (by decide) (by omega) hG.1 hn hc (fun S1 f1 r1 => ⟨vp_in_nI (n := 157) (by decide) (by decide), nm_e ?_⟩)
    have hw2 := uR_wf hw.1 (v := v) (by omega)
    have r2 : RM (sA S1 28 0 (140 + 17) (nI v - 2)) 140 (uR (qA G) v) := r1.n hn hc (j := 17) (by omega) rfl rfl rfl rfl rfl rfl rfl rfl rfl rfl
    refine z_plan0 (g := 140) r2 hw2 (by omega) (fun S2 b1 b2 b3 => ?_)
    have hF2 : FZ S0 S2 := ((hF.tr (f1.fz (by decide))).a (by decide) _).tr b3.fz
    refine m_waitingOn (g := 112) b1 (by decide) ?_
    rw [(planR_ok hw2).2]
    unfold enoL at hK
    refine ⟨fun z => nm_r (nI_1 v) ?_, fun z => ?_⟩
    · rw [if_neg z] at hK
      exact z_enough_2 hG0 hw m (v + 1) f S2 (by omega) (by omega) (by omega) hF2 hK
    · rw [if_pos z] at hK
      exact hK S2 hF2
theorem z_enough (hG : RZ S G) (hw : wfQ G) (hok : ∀ S', RZ S' G → Fr 28 S S' → K (oI (enoL (qA G) 5 1)) S') : wp_X7_enough S K :=
  z_enough_2 hG hw 5 1 2000 S (by omega) (by omega) (by omega) FZ.rf (fun S' f => hok S' (hG.fz hw f) f.1)
-- TWO ACTS CHANGED
theorem RM.sw {S : tq_St} {g : Nat} {A : aE} (h : RM S g A) (hn : aN A ≤ 5) (hc : aC A ≤ 8) {i j : Nat} (hi : i < aC A) (hj : j < aC A) : RM (sA (sA S 28 0 (g + 19 + i) (nI (aA A j))) 28 0 (g + 19 + j) (nI (aA A i))) g (swpA A i j) := by
  obtain ⟨h1, h2, h3, h4, h5, h6, h7, h8, h9, h10, h11⟩ := h
  refine ⟨h1, fun q hq => ?_, fun q hq => ?_, fun q hq => ?_, ?_, ?_, ?_, ?_, ?_, fun k hk => ?_, fun k hk => ?_⟩
  · have hq : q < aN A := hq
    rw [pg_at, if_neg (by omega), pg_at, if_neg (by omega)]; exact h2 q hq
  · have hq : q < aN A := hq
    rw [pg_at, if_neg (by omega), pg_at, if_neg (by omega)]; exact h3 q hq
  · have hq : q < aN A := hq
    rw [pg_at, if_neg (by omega), pg_at, if_neg (by omega)]; exact h4 q hq
  · rw [pg_at, if_neg (by omega), pg_at, if_neg (by omega)]; exact h5
  · rw [pg_at, if_neg (by omega), pg_at, if_neg (by omega)]; exact h6
  · rw [pg_at, if_neg (by omega), pg_at, if_neg (by omega)]; exact h7
  · rw [pg_at, if_neg (by omega), pg_at, if_neg (by omega)]; exact h8
  · rw [pg_at, if_neg (by omega), pg_at, if_neg (by omega)]; exact h9
  · have hk : k < aC A := hk
    show _ = nI (un (un (aA A) i (aA A j)) j (aA A i) k)
    rw [pg_at, pg_at]
    by_cases e : k = j
    · rw [if_pos (by omega), e, un_s]
    · rw [if_neg (by omega), un_n _ _ e]
      by_cases e2 : k = i
      · rw [if_pos (by omega), e2, un_s]
      · rw [if_neg (by omega), un_n _ _ e2]; exact h10 k hk
  · rw [sA_nk _ _ _ _ _ (by decide), sA_nk _ _ _ _ _ (by decide)]; exact h11 k hk
theorem z_goneThen {A : aE} (hR : RM S 112 A) (hw : wfE A) (hK : K (nI (pcN (aG A))) S) : wp_X7_goneThen S K := by
  have hgl := hw.gl
  have q : S.2.1 28 0 (127 : Int32).toNatClampNeg = nI (aG A) := hR.2.2.2.2.1
  unfold wp_X7_goneThen
  rw [q]
  exact ⟨vp_in_nI (n := 127) (by decide) (by decide), m_bitsOf (by omega) hK⟩
theorem chg_sw {A : aE} {i j : Nat} (hi : i < aC A) (hj : j < aC A) : chgA A i j = swpA A i j := by
  unfold chgA
  rw [if_pos ⟨hi, hj⟩]
theorem z_swap_47 {S0 : tq_St} {y : Int32} {rec29 : Int32 → Int32 → Int32 → Int32 → tq_St → Prop} (hG0 : RZ S0 G) (hw : wfQ G) {i : Nat} (hi : i < aC (qA G)) : ∀ (m j f b : Nat) (w : Int32) (S : tq_St), j + m = aC (qA G) → i < j → m < f → b ≤ 31 → FZ S0 S → (∀ S', FZ S0 S' → (sw2 (qA G) i m j b w).1 ≤ 31 → rec29 y (nI (sw2 (qA G) i m j b w).1) (sw2 (qA G) i m j b w).2 (nI (i + 1)) S') → wp_X7_swap_47 K rec29 f y (nI b) w (nI i) (nI j) S
  | 0, j, f + 1, b, w, S, h1, hij, h2, hb, hF, hK => by
    have hc := hw.1.2.2.2.2.2.2.2.2.1
    have hG := hG0.fz hw hF
    have q27 : S.2.1 28 0 (27 : Int32).toNatClampNeg = nI (aC (qA G)) := by have := hG.1.2.2.2.2.2.2.2.2.1; rwa [Nat.zero_add] at this
    unfold wp_X7_swap_47
    rw [q27]
    exact ⟨vp_in_nI (n := 27) (by decide) (by decide), pk_le (aC (qA G)) j (fun _ => nm_r (nI_1 i) (hK S hF hb)) (fun z => absurd z (by omega))⟩
  | m + 1, j, f + 1, b, w, S, h1, hij, h2, hb, hF, hK => by
    have hn := hw.1.1
    have hc := hw.1.2.2.2.2.2.2.2.2.1
    have hG := hG0.fz hw hF
    have q27 : S.2.1 28 0 (27 : Int32).toNatClampNeg = nI (aC (qA G)) := by have := hG.1.2.2.2.2.2.2.2.2.1; rwa [Nat.zero_add] at this
    unfold wp_X7_swap_47
    rw [q27]
    refine ⟨vp_in_nI (n := 27) (by decide) (by decide), pk_le (aC (qA G)) j (fun z => absurd z (by omega)) (fun hj => ?_)⟩
    refine m_copies (a := 0) (b := 140) (by decide) (by decide) (by omega) hG.1 hn hc (fun S1 f1 r1 => ?_)
    have hF1 := hF.tr (f1.fz (by decide))
    have hG1 := hG0.fz hw hF1
    have i1 : (19 : Int32) + nI j = nI (19 + j) := nI_add 19 j
    have i2 : (159 : Int32) + nI i = nI (140 + 19 + i) := nI_add 159 i
    have i3 : (19 : Int32) + nI i = nI (19 + i) := nI_add 19 i
    have i4 : (159 : Int32) + nI j = nI (140 + 19 + j) := nI_add 159 j
    rw [i1, i2, i3, i4, nI_clamp (n := 19 + j) (by omega), nI_clamp (n := 140 + 19 + i) (by omega), nI_clamp (n := 19 + i) (by omega), nI_clamp (n := 140 + 19 + j) (by omega)]
    have q1 : S1.2.1 28 0 (19 + j) = nI (aA (qA G) j) := by have := hG1.1.2.2.2.2.2.2.2.2.2.1 j hj; rwa [Nat.zero_add] at this
    have q2 : (sA S1 28 0 (140 + 19 + i) (nI (aA (qA G) j))).2.1 28 0 (19 + i) = nI (aA (qA G) i) := by
      rw [sA_at, if_neg (by omega)]
      have := hG1.1.2.2.2.2.2.2.2.2.2.1 i hi; rwa [Nat.zero_add] at this
    rw [q1]
    refine ⟨vp_in_nI (by omega) (by decide), vp_in_nI (by omega) (by decide), nm_e ⟨vp_in_nI (by omega) (by decide), vp_in_nI (by omega) (by decide), nm_e ?_⟩⟩
    rw [q2]
    have hwc := swpA_wf hw.1 hi hj
    refine z_plan0 (g := 140) (r1.sw hn hc hi hj) hwc (by omega) (fun S2 b1 b2 b3 => ?_)
    have hF2 : FZ S0 S2 := ((hF1.a (by omega) _).a (by omega) _).tr b3.fz
    have hwp := (planR_ok hwc).1
    have hgc : pcN (aG (planR (swpA (qA G) i j)).1) = gcF (qA G) i j := by unfold gcF; rw [chg_sw hi hj]
    have hg31 : gcF (qA G) i j ≤ 31 := pcN_le _
    refine z_goneThen b1 hwp ?_
    rw [hgc]
    have e10 : (10 : Int32) * nI i + nI j = nI (10 * i + j) := by
      have e10 : (10 : Int32) = nI 10 := rfl
      rw [e10, pk_mul, nI_add]
    unfold sw2 at hK
    have h137 : ∀ w', (b < gcF (qA G) i j → w' = nI (10 * i + j)) → (¬ b < gcF (qA G) i j → w' = w) → wp_X7_swap_137 K (wp_X7_swap_47 K rec29 f) rec29 y (nI b) (nI i) (nI j) w' S2 := by
      intro w' hyes hno
      unfold wp_X7_swap_137
      refine z_goneThen b1 hwp ?_
      rw [hgc]
      refine pk_le (gcF (qA G) i j) b (fun z => nm_r (nI_1 j) ?_) (fun z => ?_)
      · rw [if_neg (by omega)] at hK
        rw [hno (by omega)]
        exact z_swap_47 hG0 hw hi m (j + 1) f b w S2 (by omega) (by omega) (by omega) hb hF2 hK
      · refine z_goneThen b1 hwp ?_
        rw [hgc]
        refine nm_r (nI_1 j) ?_
        rw [if_pos z] at hK
        rw [hyes z]
        exact z_swap_47 hG0 hw hi m (j + 1) f _ _ S2 (by omega) (by omega) (by omega) hg31 hF2 hK
    refine pk_le (gcF (qA G) i j) b (fun z => h137 w (fun c => by omega) (fun _ => rfl)) (fun z => ?_)
    rw [e10]
    exact h137 _ (fun _ => rfl) (fun c => absurd z c)
theorem z_swap_29 {S0 : tq_St} {y : Int32} (hG0 : RZ S0 G) (hw : wfQ G) : ∀ (m i f b : Nat) (w : Int32) (S : tq_St), i + m = aC (qA G) → m < f → b ≤ 31 → FZ S0 S → (∀ S', FZ S0 S' → K (swR y (sw1 (qA G) m i b w)) S') → wp_X7_swap_29 K f y (nI b) w (nI i) S
  | 0, i, f + 1, b, w, S, h1, h2, hb, hF, hK => by
    have hc := hw.1.2.2.2.2.2.2.2.2.1
    have hG := hG0.fz hw hF
    have q27 : S.2.1 28 0 (27 : Int32).toNatClampNeg = nI (aC (qA G)) := by have := hG.1.2.2.2.2.2.2.2.2.1; rwa [Nat.zero_add] at this
    unfold wp_X7_swap_29
    rw [q27]
    have h9 := hK S hF
    unfold swR sw1 at h9
    refine ⟨vp_in_nI (n := 27) (by decide) (by decide), pk_le (aC (qA G)) i (fun _ => ⟨fun z => ?_, fun z => ⟨fun z2 => ?_, fun z2 => ?_⟩⟩) (fun z => absurd z (by omega))⟩
    · by_cases c : y = 0
      · rw [if_pos c] at h9; exact h9
      · rw [if_neg c, if_pos z] at h9; exact h9
    · rw [if_neg z2, if_neg z] at h9; exact h9
    · rw [if_pos z2] at h9; exact h9
  | m + 1, i, f + 1, b, w, S, h1, h2, hb, hF, hK => by
    have hc := hw.1.2.2.2.2.2.2.2.2.1
    have hG := hG0.fz hw hF
    have q27 : S.2.1 28 0 (27 : Int32).toNatClampNeg = nI (aC (qA G)) := by have := hG.1.2.2.2.2.2.2.2.2.1; rwa [Nat.zero_add] at this
    unfold wp_X7_swap_29
    rw [q27]
    refine ⟨vp_in_nI (n := 27) (by decide) (by decide), pk_le (aC (qA G)) i (fun z => absurd z (by omega)) (fun hi => nm_r (nI_1 i) ?_)⟩
    refine z_swap_47 hG0 hw hi (aC (qA G) - (i + 1)) (i + 1) 2000 b w S (by omega) (by omega) (by omega) hb hF (fun S' f' hb' => ?_)
    exact z_swap_29 hG0 hw m (i + 1) f _ _ S' (by omega) (by omega) hb' f' hK
theorem un_self {α : Type} (f : Nat → α) (k : Nat) : un f k (f k) = f := by
  funext j
  by_cases e : j = k
  · rw [e, un_s]
  · rw [un_n _ _ e]
theorem gc00 (A : aE) : gcF A 0 0 = pcN (aG (planR A).1) := by
  unfold gcF chgA
  split
  · unfold swpA
    rw [un_self, un_self]
  · rfl
theorem z_swap {y : Int32} (hG : RZ S G) (hw : wfQ G) (hbad : (∀ w, w ≤ 1 → y ≠ nI w) → K (-1) S) (hok : ∀ w, w ≤ 1 → y = nI w → ∀ S', RZ S' G → Fr 28 S S' → K (swR y (sw1 (qA G) (aC (qA G)) 0 (gcF (qA G) 0 0) (-4))) S') : wp_X7_swap y S K := by
  have hc := hw.1.2.2.2.2.2.2.2.2.1
  unfold wp_X7_swap
  refine m_in 0 1 (by decide) (by decide) (by decide) (fun w _ hw1 e => ⟨fun _ => ?_, fun z => absurd z (by decide)⟩) (fun h => ⟨fun z => absurd rfl z, fun _ => hbad (fun c hc => h c (by omega) hc)⟩)
  refine z_plan0 (g := 0) hG.1 hw.1 (by omega) (fun S1 a1 a2 a3 => ?_)
  refine z_goneThen a1 (planR_ok hw.1).1 ?_
  rw [← gc00]
  have hp : gcF (qA G) 0 0 ≤ 31 := pcN_le _
  exact z_swap_29 hG hw (aC (qA G)) 0 2000 _ _ S1 (by omega) (by omega) hp a3.fz (fun S' f => hok w hw1 e S' (hG.fz hw f) f.1)
end Z3
end
section
section Z4
variable {S : tq_St} {G : aQ} {K : Int32 → tq_St → Prop}
-- AS SEEN
def agP (s : Nat × (Nat → Nat) × (Nat → Bool)) (g k : Nat) : Bool := decide (∀ i, i < k → g.testBit (s.2.1 i) = s.2.2 i)
theorem agP_s (s : Nat × (Nat → Nat) × (Nat → Bool)) (g k : Nat) : agP s g (k + 1) = (agP s g k && decide (g.testBit (s.2.1 k) = s.2.2 k)) := by
  unfold agP
  rw [Bool.eq_iff_iff, Bool.and_eq_true, decide_eq_true_eq, decide_eq_true_eq, decide_eq_true_eq]
  constructor
  · intro h
    exact ⟨fun i hi => h i (by omega), h k (by omega)⟩
  · intro h i hi
    by_cases e : i = k
    · rw [e]; exact h.2
    · exact h.1 i (by omega)
def ZS (S : tq_St) (s : Nat × (Nat → Nat) × (Nat → Bool)) : Prop := S.1 28 22 = nI s.1 ∧ ∀ i, i < s.1 → S.2.1 28 21 (2 * i) = nI (s.2.1 i) ∧ S.2.1 28 21 (2 * i + 1) = bI (s.2.2 i)
theorem z_seen_10 {s : Nat × (Nat → Nat) × (Nat → Bool)} {g : Nat} (h6 : s.1 ≤ 6) (h5 : ∀ i, s.2.1 i < 5) (hS : ZS S s) (hg : g < 2 ^ 31) (hq : pg S 127 = nI g) (hK : K (bI (agP s g s.1)) S) : ∀ (m k f : Nat), k + m = s.1 → m < f → wp_X7_isAsSeen_10 K f (bI (agP s g k)) (nI k) S
  | 0, k, f + 1, h1, h2 => by
    unfold wp_X7_isAsSeen_10
    rw [hS.1]
    refine pk_le s.1 k (fun _ => ⟨?_, ?_⟩) (fun z => absurd z (by omega))
    · cases agP s g k
      · exact Or.inl rfl
      · exact Or.inr rfl
    · rw [show k = s.1 by omega]
      exact hK
  | m + 1, k, f + 1, h1, h2 => by
    have ih := z_seen_10 h6 h5 hS hg hq hK m (k + 1) f (by omega) (by omega)
    rw [agP_s] at ih
    unfold wp_X7_isAsSeen_10
    rw [hS.1]
    refine pk_le s.1 k (fun z => absurd z (by omega)) (fun hk => ?_)
    have h57 : (agP s g k && decide (g.testBit (s.2.1 k) = s.2.2 k)) = false → wp_X7_isAsSeen_57 K (wp_X7_isAsSeen_10 K f) (nI k) S := by
      intro e
      unfold wp_X7_isAsSeen_57
      rw [e] at ih
      exact nm_r (nI_1 k) ih
    cases ha : agP s g k
    · exact ⟨fun _ => h57 (by rw [ha]; rfl), fun z => absurd rfl z⟩
    · refine ⟨fun z => absurd z (by decide), fun _ => ?_⟩
      have e2 : (2 : Int32) * nI k = nI (2 * k) := pk_mul 2 k
      rw [e2, nI_1, nI_clamp (n := 2 * k) (by omega), nI_clamp (n := 2 * k + 1) (by omega), (hS.2 k hk).1, (hS.2 k hk).2]
      have hq' : S.2.1 28 0 (127 : Int32).toNatClampNeg = nI g := hq
      have hp := h5 k
      rw [hq', zb_val hg (by omega)]
      refine ⟨vp_in_nI (n := 127) (by decide) (by decide), vp_in_nI (by omega) (by decide), vp_in_nI (by omega) (by decide), fun z => h57 ?_, fun z => nm_r (nI_1 k) ?_⟩
      · rw [ha, Bool.true_and, decide_eq_false_iff_not]
        intro c
        apply z
        rw [c]
        cases s.2.2 k <;> rfl
      · have c : g.testBit (s.2.1 k) = s.2.2 k := by
          cases ht : g.testBit (s.2.1 k) <;> cases hb : s.2.2 k <;> rw [ht, hb] at z <;> first | rfl | exact absurd z (by decide)
        rw [ha, Bool.true_and, decide_eq_true c] at ih
        exact ih
theorem z_isAsSeen {s : Nat × (Nat → Nat) × (Nat → Bool)} {A : aE} (h6 : s.1 ≤ 6) (h5 : ∀ i, s.2.1 i < 5) (hS : ZS S s) (hR : RM S 0 A) (hw : wfE A) (hK : ∀ S', RM S' 112 (planR A).1 → FT S S' → K (bI (agrB s (aG (planR A).1))) S') : wp_X7_isAsSeen S K := by
  unfold wp_X7_isAsSeen
  refine z_plan0 (g := 0) hR hw (by omega) (fun S1 a1 a2 a3 => ?_)
  have hS1 : ZS S1 s := by
    unfold ZS
    rw [a3.2.1 22 (by decide) (by decide) (by decide), a3.2.2.1 21 (by decide)]
    exact hS
  have hgl := (planR_ok hw).1.gl
  have e0 : (1 : Int32) = bI (agP s (aG (planR A).1) 0) := by
    have : agP s (aG (planR A).1) 0 = true := decide_eq_true (fun i hi => by omega)
    rw [this]; rfl
  rw [e0]
  exact z_seen_10 h6 h5 hS1 (by omega) a1.2.2.2.2.1 (hK S1 a1 a3) s.1 0 2000 (by omega) (by omega)
/-- all but one place of now is as it was, what is made anew apart -/
def FY (q : Nat) (S S' : tq_St) : Prop := Fr 28 S S' ∧ (∀ k, k = 2 ∨ k = 8 ∨ k = 9 ∨ k = 22 ∨ k = 28 → S'.1 28 k = S.1 28 k) ∧ (∀ k, k ≠ 0 → k ≠ 3 → k ≠ 23 → S'.2.1 28 k = S.2.1 28 k) ∧ ∀ i, i < 84 → i ≠ q → pg S' i = pg S i
theorem FZ.fy {q : Nat} {S' : tq_St} (h : FZ S S') : FY q S S' := ⟨h.1, h.2.1, h.2.2.1, fun i hi _ => h.2.2.2 i hi⟩
theorem FY.tr {q : Nat} {S T U : tq_St} (h : FY q S T) (h2 : FY q T U) : FY q S U := ⟨h.1.tr h2.1, fun k hk => (h2.2.1 k hk).trans (h.2.1 k hk), fun k a b c => (h2.2.2.1 k a b c).trans (h.2.2.1 k a b c), fun i hi hn => (h2.2.2.2 i hi hn).trans (h.2.2.2 i hi hn)⟩
theorem FY.q {q : Nat} {S T : tq_St} (h : FY q S T) (v : Int32) : FY q S (sA T 28 0 q v) := h.tr ⟨Fr.rf.A _ _ _, fun k hk => rfl, fun k a _ _ => sA_nk _ _ _ _ _ a, fun i hi hn => by rw [pg_at, if_neg hn]⟩
theorem FY.back {q : Nat} {S T : tq_St} (h : FY q S T) {v : Int32} (hv : v = pg S q) : FZ S (sA T 28 0 q v) := by
  have h2 := h.q v
  refine ⟨h2.1, h2.2.1, h2.2.2.1, fun i hi => ?_⟩
  by_cases e : i = q
  · rw [pg_at, if_pos e, hv, e]
  · exact h2.2.2.2 i hi e
theorem FY.g {q : Nat} {S T : tq_St} (h : FY q S T) (i : Nat) (v : Int32) : FY q S (sA T 28 23 i v) := h.tr ⟨Fr.rf.A _ _ _, fun k hk => rfl, fun k _ _ c => sA_nk _ _ _ _ _ c, fun j hj hn => by show (sA T 28 23 i v).2.1 28 0 j = _; rw [sA_nk _ _ _ _ _ (by decide)]⟩
theorem RM.cong {S T : tq_St} {A : aE} (h : RM T 0 A) (hn : aN A ≤ 5) (hc : aC A ≤ 8) (h2 : S.1 28 2 = T.1 28 2) (h1 : S.2.1 28 1 = T.2.1 28 1) (hp : ∀ i, i < 28 → pg S i = pg T i) : RM S 0 A := by
  obtain ⟨r1, r2, r3, r4, r5, r6, r7, r8, r9, r10, r11⟩ := h
  refine ⟨by rw [h2]; exact r1, fun p hq => ?_, fun p hq => ?_, fun p hq => ?_, ?_, ?_, ?_, ?_, ?_, fun i hi => ?_, fun k hk => ?_⟩
  · rw [hp _ (by omega)]; exact r2 p hq
  · rw [hp _ (by omega)]; exact r3 p hq
  · rw [hp _ (by omega)]; exact r4 p hq
  · rw [hp _ (by omega)]; exact r5
  · rw [hp _ (by omega)]; exact r6
  · rw [hp _ (by omega)]; exact r7
  · rw [hp _ (by omega)]; exact r8
  · rw [hp _ (by omega)]; exact r9
  · rw [hp _ (by omega)]; exact r10 i hi
  · rw [h1]; exact r11 k hk
theorem FY.rm {q : Nat} {S0 S : tq_St} {A : aE} {v : Int32} (h : FY q S0 S) (hR : RM (sA S0 28 0 q v) 0 A) (hn : aN A ≤ 5) (hc : aC A ≤ 8) : RM (sA S 28 0 q v) 0 A := by
  refine hR.cong hn hc (h.2.1 2 (by omega)) ?_ (fun i hi => ?_)
  · rw [sA_nk _ _ _ _ _ (by decide), sA_nk _ _ _ _ _ (by decide)]; exact h.2.2.1 1 (by decide) (by decide) (by decide)
  · rw [pg_at, pg_at]
    by_cases e : i = q
    · rw [if_pos e, if_pos e]
    · rw [if_neg e, if_neg e]; exact h.2.2.2 i (by omega) e
theorem RZ.zs (hG : RZ S G) : ZS S (qS G) := hG.2.2.2.2.1
theorem FY.zs {q : Nat} {S0 S : tq_St} {s : Nat × (Nat → Nat) × (Nat → Bool)} (h : FY q S0 S) (hS : ZS S0 s) : ZS S s := by
  unfold ZS
  rw [h.2.1 22 (by omega), h.2.2.1 21 (by decide) (by decide) (by decide)]
  exact hS
theorem z_kinds_22 {S0 : tq_St} {p : Nat} (hG0 : RZ S0 G) (hw : wfQ G) (hp : p < aN (qA G)) (hK : ∀ S', FZ S0 S' → K (nI (kinB G p 4)) S') : ∀ (m k f : Nat) (S : tq_St), k + m = 4 → m < f → FY p S0 S → wp_X7_kinds_22 K f (nI p) (nI (aK (qA G) p)) (nI (kinB G p k)) (nI k) S
  | 0, k, f + 1, S, h1, h2, hF => by
    have hn := hw.1.1
    have e : k = 4 := by omega
    subst e
    unfold wp_X7_kinds_22
    refine pk_le 4 4 (fun _ => ⟨vp_in_nI (by omega) (by decide), nm_e ?_⟩) (fun z => absurd z (by omega))
    rw [nI_clamp (by omega)]
    have q2 : pg S0 p = nI (aK (qA G) p) := by have := hG0.1.2.1 p hp; rwa [Nat.zero_add] at this
    exact hK _ (hF.back q2.symm)
  | m + 1, k, f + 1, S, h1, h2, hF => by
    have hn := hw.1.1
    have hc := hw.1.2.2.2.2.2.2.2.2.1
    unfold wp_X7_kinds_22
    refine pk_le 4 k (fun z => absurd z (by omega)) (fun _ => ⟨vp_in_nI (by omega) (by decide), nm_e ?_⟩)
    rw [nI_clamp (by omega)]
    have hw2 := alterK_wf hw.1 (p := p) (v := k) (by omega)
    have hR0 := hG0.1.k hn hc (p := p) hp k
    rw [Nat.zero_add] at hR0
    have hR : RM (sA S 28 0 p (nI k)) 0 (alterK (qA G) p k) := hF.rm hR0 hn hc
    have hF1 := hF.q (nI k)
    refine z_isAsSeen hw.2.2.2.2.1.1 hw.2.2.2.2.1.2 (hF1.zs hG0.zs) hR hw2 (fun S1 a1 a2 => ?_)
    have ih := z_kinds_22 hG0 hw hp hK m (k + 1) f S1 (by omega) (by omega) (hF1.tr a2.fz.fy)
    unfold kinB at ih
    cases hc : agrB (qS G) (aG (planR (alterK (qA G) p k)).1)
    · refine ⟨fun _ => ?_, fun z => absurd rfl z⟩
      unfold wp_X7_kinds_52
      rw [hc] at ih
      have e0 : nI (kinB G p k) ||| 0 = nI (kinB G p k) := i_or0 _
      exact nm_r e0 (nm_r (nI_1 k) ih)
    · refine ⟨fun z => absurd z (by decide), fun _ => ?_⟩
      unfold wp_X7_kinds_52
      rw [hc] at ih
      exact nm_r (zb_or (by omega)) (nm_r (nI_1 k) ih)
theorem z_kinds {x : Int32} (hG : RZ S G) (hw : wfQ G) (hbad : (∀ p, p < aN (qA G) → x ≠ nI p) → K (-1) S) (hok : ∀ p, p < aN (qA G) → x = nI p → ∀ S', RZ S' G → Fr 28 S S' → K (nI (kinB G p 4)) S') : wp_X7_kinds x S K := by
  have hn := hw.1.1
  unfold wp_X7_kinds
  refine m_isOne hG.1.1 hn (fun p hp e => ⟨fun _ => ?_, fun z => absurd z (by decide)⟩) (fun hno => ⟨fun z => absurd rfl z, fun _ => hbad hno⟩)
  subst e
  have q2 : S.2.1 28 0 p = nI (aK (qA G) p) := by have := hG.1.2.1 p hp; rwa [Nat.zero_add] at this
  rw [nI_clamp (by omega), q2]
  exact ⟨vp_in_nI (by omega) (by decide), nm_e (z_kinds_22 hG hw hp (fun S' f => hok p hp rfl S' (hG.fz hw f) f.1) 4 0 2000 S (by omega) (by omega) FZ.rf.fy)⟩
theorem z_sor_14 {S0 : tq_St} {p : Nat} (hG0 : RZ S0 G) (hw : wfQ G) (hp : p < aN (qA G)) (hK : ∀ S', FZ S0 S' → (∀ s, s < 21 → S'.2.1 28 23 s = nI (ocF (qA G) p s)) → K (nI (sorB G p 21)) S') : ∀ (m k f : Nat) (S : tq_St), k + m = 21 → m < f → FY (5 + p) S0 S → (∀ s, s < k → S.2.1 28 23 s = nI (ocF (qA G) p s)) → wp_X7_sorrowsOf_14 K f (nI p) (nI (aS (qA G) p)) (nI (sorB G p k)) (nI k) S
  | 0, k, f + 1, S, h1, h2, hF, hO => by
    have hn := hw.1.1
    have e : k = 21 := by omega
    subst e
    unfold wp_X7_sorrowsOf_14
    have i5 : (5 : Int32) + nI p = nI (5 + p) := nI_add 5 p
    rw [i5, nI_clamp (n := 5 + p) (by omega)]
    refine pk_lt 20 21 (fun _ => ⟨vp_in_nI (by omega) (by decide), nm_e ?_⟩) (fun z => absurd z (by omega))
    have q2 : pg S0 (5 + p) = nI (aS (qA G) p) := by have := hG0.1.2.2.1 p hp; rwa [Nat.zero_add] at this
    refine hK _ (hF.back q2.symm) (fun s hs => ?_)
    rw [sA_nk _ _ _ _ _ (by decide)]
    exact hO s hs
  | m + 1, k, f + 1, S, h1, h2, hF, hO => by
    have hn := hw.1.1
    have hc := hw.1.2.2.2.2.2.2.2.2.1
    unfold wp_X7_sorrowsOf_14
    have i5 : (5 : Int32) + nI p = nI (5 + p) := nI_add 5 p
    rw [i5, nI_clamp (n := 5 + p) (by omega)]
    refine pk_lt 20 k (fun z => absurd z (by omega)) (fun _ => ⟨vp_in_nI (by omega) (by decide), nm_e ?_⟩)
    have hw2 := alterS_wf hw.1 (p := p) (v := k) (by omega)
    have hR0 := hG0.1.s hn hc (p := p) hp k
    rw [Nat.zero_add] at hR0
    have hR : RM (sA S 28 0 (5 + p) (nI k)) 0 (alterS (qA G) p k) := hF.rm hR0 hn hc
    have hF1 := hF.q (nI k)
    refine z_isAsSeen hw.2.2.2.2.1.1 hw.2.2.2.2.1.2 (hF1.zs hG0.zs) hR hw2 (fun S1 a1 a2 => ?_)
    have q127 : S1.2.1 28 0 (127 : Int32).toNatClampNeg = nI (ocF (qA G) p k) := a1.2.2.2.2.1
    have ih := z_sor_14 hG0 hw hp hK m (k + 1) f (sA S1 28 23 k (nI (ocF (qA G) p k))) (by omega) (by omega) ((hF1.tr a2.fz.fy).g _ _) (fun s hs => by
      rw [sA_at]
      by_cases e : s = k
      · rw [if_pos e, e]
      · rw [if_neg e, a2.2.2.1 23 (by decide), sA_nk _ _ _ _ _ (by decide)]; exact hO s (by omega))
    unfold sorB at ih
    have h47 : ∀ w : Int32, nI (sorB G p k) ||| w = nI (if agrB (qS G) (ocF (qA G) p k) then sorB G p k ||| 2 ^ k else sorB G p k) → wp_X7_sorrowsOf_47 K (wp_X7_sorrowsOf_14 K f) (nI p) (nI (aS (qA G) p)) (nI k) (nI (sorB G p k)) w S1 := by
      intro w hwv
      unfold wp_X7_sorrowsOf_47
      rw [q127, nI_clamp (n := k) (by omega)]
      exact nm_r hwv ⟨vp_in_nI (n := 127) (by decide) (by decide), vp_in_nI (by omega) (by decide), nm_e (nm_r (nI_1 k) ih)⟩
    cases hc : agrB (qS G) (ocF (qA G) p k)
    · have hc' : agrB (qS G) (aG (planR (alterS (qA G) p k)).1) = false := hc
      rw [hc']
      exact ⟨fun _ => h47 0 (by rw [hc]; exact i_or0 _), fun z => absurd rfl z⟩
    · have hc' : agrB (qS G) (aG (planR (alterS (qA G) p k)).1) = true := hc
      rw [hc']
      exact ⟨fun z => absurd z (by decide), fun _ => h47 _ (by rw [hc]; exact zb_or (by omega))⟩
theorem z_sorrowsOf {p : Nat} (hG : RZ S G) (hw : wfQ G) (hp : p < aN (qA G)) (hK : ∀ S', FZ S S' → (∀ s, s < 21 → S'.2.1 28 23 s = nI (ocF (qA G) p s)) → K (nI (sorB G p 21)) S') : wp_X7_sorrowsOf (nI p) S K := by
  have hn := hw.1.1
  unfold wp_X7_sorrowsOf
  have i5 : (5 : Int32) + nI p = nI (5 + p) := nI_add 5 p
  have q2 : S.2.1 28 0 (5 + p) = nI (aS (qA G) p) := by have := hG.1.2.2.1 p hp; rwa [Nat.zero_add] at this
  rw [i5, nI_clamp (n := 5 + p) (by omega), q2]
  exact ⟨vp_in_nI (by omega) (by decide), nm_e (z_sor_14 hG hw hp hK 21 0 2000 S (by omega) (by omega) FZ.rf.fy (fun s hs => by omega))⟩
theorem z_sorrows {x : Int32} (hG : RZ S G) (hw : wfQ G) (hbad : (∀ p, p < aN (qA G) → x ≠ nI p) → K (-1) S) (hok : ∀ p, p < aN (qA G) → x = nI p → ∀ S', RZ S' G → Fr 28 S S' → K (nI (sorB G p 21)) S') : wp_X7_sorrows x S K := by
  unfold wp_X7_sorrows
  refine m_isOne hG.1.1 hw.1.1 (fun p hp e => ⟨fun z => absurd z (by decide), fun _ => ?_⟩) (fun hno => ⟨fun _ => hbad hno, fun z => absurd rfl z⟩)
  subst e
  exact z_sorrowsOf hG hw hp (fun S' f _ => hok p hp rfl S' (hG.fz hw f) f.1)
-- WHOM TO ASK (any answer)
theorem z_ask_58 {rec43 : Int32 → Int32 → Int32 → Int32 → Int32 → Int32 → tq_St → Prop} {v2 v3 v4 v5 v6 : Int32} {q : Nat} (hrec : ∀ a b, rec43 v2 v3 v4 a b (nI (q + 1)) S) : ∀ (m k f : Nat) (v8 : Int32), k + m = 21 → m < f → wp_X7_ask_58 K rec43 f v2 v3 v4 v5 v6 (nI q) v8 (nI k) S := by
  have h138 : ∀ v9 w0 : Int32, wp_X7_ask_138 K rec43 v2 v3 v4 v5 (nI q) v9 w0 S := fun v9 w0 => ⟨fun _ => nm_r (nI_1 q) (hrec _ _), fun _ => nm_r (nI_1 q) (hrec _ _)⟩
  have h122 : ∀ w0 : Int32, wp_X7_ask_122 K rec43 v2 v3 v4 v5 v6 (nI q) w0 S := fun w0 => ⟨fun _ => h138 _ _, fun _ => h138 _ _⟩
  intro m
  induction m with
  | zero =>
    intro k f v8 h1 h2
    obtain ⟨f, rfl⟩ : ∃ j, f = j + 1 := ⟨f - 1, by omega⟩
    unfold wp_X7_ask_58
    exact pk_lt 20 k (fun _ => ⟨fun _ => h122 _, fun _ => h122 _⟩) (fun z => absurd z (by omega))
  | succ m ih =>
    intro k f v8 h1 h2
    obtain ⟨f, rfl⟩ : ∃ j, f = j + 1 := ⟨f - 1, by omega⟩
    unfold wp_X7_ask_58
    have h93 : ∀ w0 w1 : Int32, wp_X7_ask_93 K (wp_X7_ask_58 K rec43 f) rec43 v2 v3 v4 v5 v6 (nI q) (nI k) w0 w1 S := fun w0 w1 => nm_e (nm_r (nI_1 k) (ih (k + 1) f _ (by omega) (by omega)))
    exact pk_lt 20 k (fun z => absurd z (by omega)) (fun _ => ⟨fun _ => h93 _ _, fun _ => ⟨vp_in_nI (by omega) (by decide), h93 _ _⟩⟩)
theorem z_ask_43 {v2 v3 v4 : Int32} {n : Nat} (h5 : S.1 28 2 = nI n) (hn : n ≤ 5) (hK : ∀ r, K r S) : ∀ (m q f : Nat) (v5 v6 : Int32), q + m = n → m < f → wp_X7_ask_43 K f v2 v3 v4 v5 v6 (nI q) S
  | 0, q, f + 1, v5, v6, h1, h2 => by
    unfold wp_X7_ask_43
    rw [h5]
    exact pk_le n q (fun _ => ⟨fun _ => hK _, fun _ => ⟨fun _ => hK _, fun _ => hK _⟩⟩) (fun z => absurd z (by omega))
  | m + 1, q, f + 1, v5, v6, h1, h2 => by
    unfold wp_X7_ask_43
    rw [h5]
    refine pk_le n q (fun z => absurd z (by omega)) (fun _ => ?_)
    exact z_ask_58 (fun a b => z_ask_43 h5 hn hK m (q + 1) f a b (by omega) (by omega)) 21 0 2000 _ (by omega) (by omega)
theorem z_ask {x y : Int32} (hG : RZ S G) (hw : wfQ G) (hK : ∀ r S', RZ S' G → Fr 28 S S' → K r S') : wp_X7_ask x y S K := by
  have hS := fun r => hK r S hG Fr.rf
  unfold wp_X7_ask
  refine m_isOne hG.1.1 hw.1.1 (fun p hp e => ⟨fun z => absurd z (by decide), fun _ => ?_⟩) (fun hno => ⟨fun _ => hS _, fun z => absurd rfl z⟩)
  subst e
  refine m_in 0 1 (by decide) (by decide) (by decide) (fun w _ hw1 e => ⟨fun _ => ?_, fun z => absurd z (by decide)⟩) (fun h => ⟨fun z => absurd rfl z, fun _ => hS _⟩)
  refine z_sorrowsOf hG hw hp (fun S' f _ => ?_)
  have hG' := hG.fz hw f
  have hlt := sorB_lt G p 21
  refine m_bitsOf (Nat.lt_of_lt_of_le hlt (by decide)) ?_
  exact z_ask_43 hG'.1.1 hw.1.1 (fun r => hK r S' hG' f.1) (aN (qA G)) 0 2000 _ _ (by omega) (by have := hw.1.1; omega)
end Z4
end
section
section Z5
variable {S : tq_St} {G : aQ} {K : Int32 → tq_St → Prop}
-- BY A SEED
theorem dr_val2 (x : Int32) {n : Nat} (hn : n ≤ 5) : (((x : Int32) >>> ((16 : Int32) &&& 31)) &&& 32767) - (((x : Int32) >>> ((16 : Int32) &&& 31)) &&& 32767) / (nI n + 1) * (nI n + 1) = nI (drJ n x) := by
  rw [pk_and _ (m := 32767) 15 (by decide)]
  have h := pk_shr x ((16 : Int32) &&& 31) 16 (by decide)
  have h2 : (x >>> ((16 : Int32) &&& 31)).toBitVec.toNat % 2 ^ 15 = x.toBitVec.toNat / 65536 % 32768 := by
    have e1 : (x >>> ((16 : Int32) &&& 31)).toBitVec = x.toBitVec.sshiftRight 16 := by
      apply BitVec.toInt_inj.mp
      rw [BitVec.toInt_sshiftRight]
      exact h
    rw [e1]
    apply Nat.eq_of_testBit_eq
    intro i
    rw [show (32768 : Nat) = 2 ^ 15 by decide, show (65536 : Nat) = 2 ^ 16 by decide, Nat.testBit_mod_two_pow, Nat.testBit_mod_two_pow, Nat.testBit_div_two_pow]
    by_cases c : i < 15
    · rw [decide_eq_true c, Bool.true_and, Bool.true_and]
      show (x.toBitVec.sshiftRight 16).getLsbD i = x.toBitVec.getLsbD (i + 16)
      rw [BitVec.getLsbD_sshiftRight]
      have c1 : ¬ 32 ≤ i := by omega
      have c2 : 16 + i < 32 := by omega
      simp [c1, c2, Nat.add_comm]
      intro hh
      omega
    · rw [decide_eq_false c, Bool.false_and, Bool.false_and]
  rw [h2, nI_1]
  have hlt : x.toBitVec.toNat / 65536 % 32768 < 32768 := Nat.mod_lt _ (by decide)
  rw [pk_rem (by omega) (by omega) (by omega)]
  rfl
theorem z_drift_96 {S0 : tq_St} {N y s v5 : Int32} {rec45 : Int32 → Int32 → Int32 → Int32 → tq_St → Prop} {i : Nat} {A : aE} {t : aY} {a : Nat} (hw : wfE A) (ha : okA (aN A) a) (hR : RM S 112 A) (hT : TM S t) (hF : FT S0 S) (hi : v5 = nI i) (hrec : ∀ S', RM S' 112 (playF A a) → TM S' (t.1 ||| plW A a, t.2.1 + pcN (plW A a), t.2.2) → FT S0 S' → rec45 N y s (nI (i + 1)) S') : wp_X7_drift_96 K rec45 N y s v5 (nI a) S := by
  subst hi
  unfold wp_X7_drift_96
  refine m_acts (t := t) hR hw ha hT (fun S' a1 a2 a3 => nm_r (nI_1 i) ?_)
  exact hrec S' a1 a3 (hF.tr a2)
theorem z_drift_45 {S0 : tq_St} {n N : Nat} {y : Int32} (hn : n ≤ 5) (hN : N ≤ 60) : ∀ (m i f : Nat) (s : Int32) (A : aE) (t : aY) (S : tq_St), i + m = N → m < f → wfE A → aN A = n → RM S 112 A → TM S t → FT S0 S → (y = 0 → ∀ S', FT S0 S' → K (nI (drL n m s A t).2.2.1) S') → (¬ y = 0 → ∀ S', FT S0 S' → K (oI (nextF (drL n m s A t).1 0)) S') → wp_X7_drift_45 K f (nI N) y s (nI i) S := by
  intro m
  induction m with
  | zero =>
    intro i f s A t S h1 h2 hw hA hR hT hF hK0 hK1
    obtain ⟨f, rfl⟩ : ∃ k, f = k + 1 := ⟨f - 1, by omega⟩
    unfold wp_X7_drift_45
    refine pk_le N i (fun _ => ⟨fun z => ?_, fun z => ?_⟩) (fun z => absurd z (by omega))
    · exact m_nextOn (g := 112) (but := 0) hR hw (by decide) (by decide) (hK1 z S hF)
    · rw [hT.2.1]
      exact hK0 z S hF
  | succ m ih =>
    intro i f s A t S h1 h2 hw hA hR hT hF hK0 hK1
    obtain ⟨f, rfl⟩ : ∃ k, f = k + 1 := ⟨f - 1, by omega⟩
    rw [drL_succ] at hK0 hK1
    unfold wp_X7_drift_45
    rw [hR.1, hA]
    refine pk_le N i (fun z => absurd z (by omega)) (fun _ => ?_)
    refine nm_r (drS_eq s) ?_
    generalize drS s = s' at hK0 hK1 ⊢
    refine ⟨by rw [nI_1]; exact nI_ne0 (by omega) (by omega), nm_r (dr_val2 s' hn) ?_⟩
    have hlt : drJ n s' < n + 1 := Nat.mod_lt _ (by omega)
    have hgo : ∀ w : Nat, w = drA n s' → wp_X7_drift_96 K (wp_X7_drift_45 K f) (nI N) y s' (nI i) (nI w) S := by
      intro w e
      subst e
      exact z_drift_96 hw (by rw [hA]; exact drA_ok n _) hR hT hF rfl (fun S' a1 a2 a3 => ih (i + 1) f s' _ _ S' (by omega) (by omega) (playF_wf hw _) ((playF_same A _).1.trans hA) a1 a2 a3 hK0 hK1)
    rw [nI_eq (by omega) (by omega)]
    refine ⟨fun z => ?_, fun z => ?_⟩
    · exact hgo _ (by unfold drA; rw [if_pos (by omega)])
    · exact hgo 5 (by unfold drA; rw [if_neg (by omega)])
theorem z_drift {x y w : Int32} (hG : RZ S G) (hw : wfQ G) (hbad : (∀ n, 1 ≤ n → n ≤ 60 → y ≠ nI n) ∨ (∀ k, k ≤ 1 → w ≠ nI k) → K (-1) S) (hst : ∀ n k, 1 ≤ n → n ≤ 60 → y = nI n → k ≤ 1 → w = nI k → aN (qA G) = 0 → K (-2) S) (h0 : ∀ n, 1 ≤ n → n ≤ 60 → y = nI n → w = 0 → 0 < aN (qA G) → ∀ S', RZ S' G → Fr 28 S S' → K (nI (drL (aN (qA G)) n x (qA G) (0, 0, none)).2.2.1) S') (h1 : ∀ n, 1 ≤ n → n ≤ 60 → y = nI n → w = 1 → 0 < aN (qA G) → ∀ S', RZ S' G → Fr 28 S S' → K (oI (nextF (drL (aN (qA G)) n x (qA G) (0, 0, none)).1 0)) S') : wp_X7_drift x y w S K := by
  have hn := hw.1.1
  unfold wp_X7_drift
  refine m_in 1 60 (by decide) (by decide) (by decide) (fun n ha hb e => ⟨fun z => absurd z (by decide), fun _ => ?_⟩) (fun h => ⟨fun _ => hbad (Or.inl h), fun z => absurd rfl z⟩)
  subst e
  refine m_in 0 1 (by decide) (by decide) (by decide) (fun k _ hk e => ⟨fun _ => ?_, fun z => absurd z (by decide)⟩) (fun h => ⟨fun z => absurd rfl z, fun _ => hbad (Or.inr (fun c hc => h c (by omega) hc))⟩)
  subst e
  rw [hG.1.1]
  have e0 : (0 : Int32) = nI 0 := rfl
  refine ⟨fun z => ?_, fun z => hst n k ha hb rfl hk rfl ((nI_eq (by omega) (by decide)).mp z)⟩
  have hp : 0 < aN (qA G) := by
    rcases Nat.eq_zero_or_pos (aN (qA G)) with c | c
    · rw [c] at z; exact absurd rfl z
    · exact c
  refine m_begins (g := 0) hG.1 hw.1 (by omega) (fun S1 a1 a2 a3 => ?_)
  have hk01 : k = 0 ∨ k = 1 := by omega
  refine z_drift_45 (S0 := S) hn hb n 0 2000 x (qA G) (0, 0, none) S1 (by omega) (by omega) hw.1 rfl a1 a3 a2 (fun e S' f => h0 n ha hb rfl e hp S' (hG.fz hw f.fz) f.fr) (fun e S' f => h1 n ha hb rfl ?_ hp S' (hG.fz hw f.fz) f.fr)
  rcases hk01 with c | c
  · exact absurd (by rw [c]; rfl) e
  · rw [c]; rfl
-- SEEN
theorem RZ.oth {S' : tq_St} {G' : aQ} (h : RZ S G) (fi : ∀ k, k = 2 ∨ k = 8 ∨ k = 9 ∨ k = 28 → S'.1 28 k = S.1 28 k) (fa : ∀ k, k ≠ 21 → S'.2.1 28 k = S.2.1 28 k) {s : Nat × (Nat → Nat) × (Nat → Bool)} (hs : ZS S' s) (e : G' = vS G s) : RZ S' G' := by
  subst e
  obtain ⟨h1, h2, h3, h4, h5, h6, h7, h8, h9⟩ := h
  have fR : ∀ g A, RM S g A → RM S' g A := by
    intro g A hR
    unfold RM pg at hR ⊢
    rw [fi 2 (by omega), fa 0 (by decide), fa 1 (by decide)]
    exact hR
  refine ⟨fR _ _ h1, fun k hk => ?_, ⟨by rw [fi 8 (by omega)]; exact h3.1, fun i hi => by rw [fa 7 (by decide)]; exact h3.2 i hi⟩, by rw [fi 9 (by omega)]; exact h4, hs, fun k hk => ?_, by rw [fi 28 (by omega)]; exact h7, fun i hi => by rw [fa 16 (by decide)]; exact h8 i hi, fun i hi => by rw [fa 17 (by decide)]; exact h9 i hi⟩
  · have h2 := h2 k hk
    show ZI S' k (qI G k)
    unfold ZI at h2 ⊢
    split at h2
    · rw [fa 24 (by decide)]; exact h2
    · rw [fa 24 (by decide)]; exact ⟨h2.1, fR _ _ h2.2⟩
  · have h6 := h6 k hk
    show ZH S' k (qH G k)
    unfold ZH at h6 ⊢
    rw [fa 25 (by decide), fa 26 (by decide), fa 27 (by decide)]
    exact h6
theorem z_see {x : Int32} {b : Bool} (hG : RZ S G) (hw : wfQ G) (hbad : (∀ p, p < aN (qA G) → x ≠ nI p) → K (-1) S) (hfull : ∀ p, p < aN (qA G) → x = nI p → (qS G).1 = 6 → K (-3) S) (hok : ∀ p, p < aN (qA G) → x = nI p → (qS G).1 < 6 → ∀ S', RZ S' (seeF G p b) → Fr 28 S S' → K (nI ((qS G).1 + 1)) S') : wp_X7_see x (bI b) S K := by
  have hn := hw.1.1
  have hs := hw.2.2.2.2.1.1
  have h5 := hG.zs
  unfold wp_X7_see
  refine m_isOne hG.1.1 hn (fun p hp e => ⟨fun _ => ?_, fun z => absurd z (by decide)⟩) (fun hno => ⟨fun z => absurd rfl z, fun _ => hbad hno⟩)
  subst e
  have e6 : (6 : Int32) = nI 6 := rfl
  rw [h5.1, e6, nI_eq (by omega) (by decide)]
  refine ⟨fun hne => ?_, fun e => hfull p hp rfl e⟩
  have e2 : (2 : Int32) * nI (qS G).1 = nI (2 * (qS G).1) := pk_mul 2 _
  rw [e2, nI_clamp (by omega)]
  refine ⟨vp_in_nI (by omega) (by decide), nm_e ?_⟩
  rw [sA_1, h5.1, e2, nI_1]
  have h55 : wp_X7_see_55 K (nI (2 * (qS G).1 + 1)) (bI b) (sA S 28 21 (2 * (qS G).1) (nI p)) := by
    unfold wp_X7_see_55
    rw [nI_clamp (by omega)]
    refine ⟨vp_in_nI (by omega) (by decide), nm_e (nm_e ?_)⟩
    have e1 : (sI (sA (sA S 28 21 (2 * (qS G).1) (nI p)) 28 21 (2 * (qS G).1 + 1) (bI b)) 28 22 ((sA (sA S 28 21 (2 * (qS G).1) (nI p)) 28 21 (2 * (qS G).1 + 1) (bI b)).1 28 22 + 1)).1 28 22 = nI ((qS G).1 + 1) := by
      rw [sI_1, if_pos rfl, sA_1, sA_1, h5.1, nI_1]
    rw [e1]
    refine hok p hp rfl (by omega) _ (hG.oth (fun k hk => by rw [sI_1, if_neg (by omega)]; rfl) (fun k hk => ?_) ⟨e1, fun i hi => ⟨?_, ?_⟩⟩ rfl) (((Fr.rf.A _ _ _).A _ _ _).I _ _)
    · show (sA (sA S 28 21 (2 * (qS G).1) (nI p)) 28 21 (2 * (qS G).1 + 1) (bI b)).2.1 28 k = _
      rw [sA_nk _ _ _ _ _ hk, sA_nk _ _ _ _ _ hk]
    · have hi : i < (qS G).1 + 1 := hi
      show (sA (sA S 28 21 (2 * (qS G).1) (nI p)) 28 21 (2 * (qS G).1 + 1) (bI b)).2.1 28 21 (2 * i) = nI (un (qS G).2.1 (qS G).1 p i)
      rw [sA_at, if_neg (by omega), sA_at]
      by_cases e : i = (qS G).1
      · rw [if_pos (by omega), e, un_s]
      · rw [if_neg (by omega), un_n _ _ e]; exact (h5.2 i (by omega)).1
    · have hi : i < (qS G).1 + 1 := hi
      show (sA (sA S 28 21 (2 * (qS G).1) (nI p)) 28 21 (2 * (qS G).1 + 1) (bI b)).2.1 28 21 (2 * i + 1) = bI (un (qS G).2.2 (qS G).1 b i)
      rw [sA_at]
      by_cases e : i = (qS G).1
      · rw [if_pos (by omega), e, un_s]
      · rw [if_neg (by omega), sA_at, if_neg (by omega), un_n _ _ e]; exact (h5.2 i (by omega)).2
  cases b
  · exact ⟨fun _ => h55, fun z => absurd rfl z⟩
  · exact ⟨fun z => absurd z (by decide), fun _ => h55⟩
theorem z_forget {x : Int32} (hG : RZ S G) (hw : wfQ G) (hbad : (∀ n, n ≤ (qS G).1 → x ≠ nI n) → K (-1) S) (hok : ∀ n, n ≤ (qS G).1 → x = nI n → ∀ S', RZ S' (forgetF G n) → Fr 28 S S' → K (nI (qS G).1) S') : wp_X7_forget x S K := by
  have hs := hw.2.2.2.2.1.1
  have h5 := hG.zs
  unfold wp_X7_forget
  rw [h5.1]
  refine m_in 0 (qS G).1 (by decide) (by rw [Int32.toInt_toInt64, nI_toInt (by omega)]) (by omega) (fun n _ hn e => ⟨fun _ => nm_e (nm_e ?_), fun z => absurd z (by decide)⟩) (fun h => ⟨fun z => absurd rfl z, fun _ => hbad (fun c hc => h c (by omega) hc)⟩)
  subst e
  rw [h5.1]
  exact hok n hn rfl _ (hG.oth (fun k hk => by rw [sI_1, if_neg (by omega)]) (fun k hk => rfl) (s := (n, (qS G).2)) ⟨by rw [sI_1, if_pos rfl], fun i hi => h5.2 i (by have hi : i < n := hi; omega)⟩ rfl) (Fr.rf.I _ _)
-- IMAGES
theorem z_keep {x : Int32} (hG : RZ S G) (hw : wfQ G) (hbad : (∀ k, k ≤ 1 → x ≠ nI k) → K (-1) S) (hok : ∀ k, k ≤ 1 → x = nI k → ∀ S', RZ S' (keepF G k) → Fr 28 S S' → K (bI (qI G k).isSome) S') : wp_X7_keep x S K := by
  have hn := hw.1.1
  have hc := hw.1.2.2.2.2.2.2.2.2.1
  unfold wp_X7_keep
  refine m_in 0 1 (by decide) (by decide) (by decide) (fun k _ hk e => ⟨fun _ => ?_, fun z => absurd z (by decide)⟩) (fun h => ⟨fun z => absurd rfl z, fun _ => hbad (fun c hc => h c (by omega) hc)⟩)
  subst e
  have e28 : (28 : Int32) * (nI k + 1) = nI (28 * (k + 1)) := by rw [nI_1]; exact pk_mul 28 (k + 1)
  rw [e28]
  refine m_copies (a := 0) (b := 28 * (k + 1)) (by decide) (by omega) (by omega) hG.1 hn hc (fun S1 f1 r1 => ⟨vp_in_nI (by omega) (by decide), ?_⟩)
  rw [nI_clamp (by omega), f1.2.2.1 24 (by decide)]
  have h37 : ∀ b : Bool, b = (qI G k).isSome → wp_X7_keep_37 K (nI k) (bI b) S1 := by
    intro b eb
    unfold wp_X7_keep_37
    have en : vp_nar .boolean 1 = 1 := by decide +kernel
    rw [nI_clamp (by omega), en, eb]
    refine ⟨vp_in_nI (by omega) (by decide), nm_e (hok k hk rfl _ ?_ (f1.fr.tr (Fr.rf.A _ _ _)))⟩
    obtain ⟨h1, h2, h3, h4, h5, h6, h7, h8, h9⟩ := hG
    have fa : ∀ j, j ≠ 0 → j ≠ 24 → (sA S1 28 24 k 1).2.1 28 j = S.2.1 28 j := fun j hj hj2 => by rw [sA_nk _ _ _ _ _ hj2, f1.2.2.1 j hj]
    have fi : (sA S1 28 24 k 1).1 = S.1 := f1.1
    have fR : ∀ g A, RM S1 g A → RM (sA S1 28 24 k 1) g A := by
      intro g A hR
      unfold RM pg at hR ⊢
      rw [sA_1, sA_nk S1 28 24 k 1 (k' := 0) (by decide), sA_nk S1 28 24 k 1 (k' := 1) (by decide)]
      exact hR
    refine ⟨fR _ _ (h1.fm f1 hn hc (by omega)), fun j hj => ?_, ⟨by rw [fi]; exact h3.1, fun i hi => by rw [fa 7 (by decide) (by decide)]; exact h3.2 i hi⟩, by rw [fi]; exact h4, ⟨by rw [fi]; exact h5.1, fun i hi => by rw [fa 21 (by decide) (by decide)]; exact h5.2 i hi⟩, fun j hj => ?_, by rw [fi]; exact h7, fun i hi => by rw [fa 16 (by decide) (by decide)]; exact h8 i hi, fun i hi => by rw [fa 17 (by decide) (by decide)]; exact h9 i hi⟩
    · show ZI (sA S1 28 24 k 1) j (un (qI G) k (some (qA G)) j)
      by_cases c : j = k
      · subst c
        rw [un_s]
        exact ⟨by rw [sA_at, if_pos rfl], fR _ _ r1⟩
      · rw [un_n _ _ c]
        have h2 := h2 j hj
        unfold ZI at h2 ⊢
        split at h2
        · rw [sA_at, if_neg c, f1.2.2.1 24 (by decide)]; exact h2
        · rename_i B eB
          have hB := hw.2.1 j B eB
          rw [sA_at, if_neg c, f1.2.2.1 24 (by decide)]
          exact ⟨h2.1, fR _ _ (h2.2.fm f1 hB.1.1 hB.1.2.2.2.2.2.2.2.2.1 (by omega))⟩
    · have h6 := h6 j hj
      show ZH _ j (qH G j)
      unfold ZH at h6 ⊢
      rw [fa 25 (by decide) (by decide), fa 26 (by decide) (by decide), fa 27 (by decide) (by decide)]
      exact h6
  have hI := hG.2.1 k (by omega)
  unfold ZI at hI
  cases e : qI G k with
  | none =>
    rw [e] at hI
    rw [hI]
    exact ⟨fun _ => h37 false (by rw [e]; rfl), fun z => absurd rfl z⟩
  | some B =>
    rw [e] at hI
    rw [hI.1]
    exact ⟨fun z => absurd z (by decide), fun _ => h37 true (by rw [e]; rfl)⟩
theorem z_back {x : Int32} (hG : RZ S G) (hw : wfQ G) (hbad : (∀ k, k ≤ 1 → x ≠ nI k) → K (-1) S) (hst : ∀ k, k ≤ 1 → x = nI k → qI G k = none → K (-2) S) (hok : ∀ k B, k ≤ 1 → x = nI k → qI G k = some B → ∀ S', RZ S' (vA G B) → Fr 28 S S' → K (nI (aM B)) S') : wp_X7_back x S K := by
  unfold wp_X7_back
  refine m_in 0 1 (by decide) (by decide) (by decide) (fun k _ hk e => ⟨fun _ => ⟨by rw [e]; exact vp_in_nI (by omega) (by decide), ?_⟩, fun z => absurd z (by decide)⟩) (fun h => ⟨fun z => absurd rfl z, fun _ => hbad (fun c hc => h c (by omega) hc)⟩)
  subst e
  rw [nI_clamp (by omega)]
  have e28 : (28 : Int32) * (nI k + 1) = nI (28 * (k + 1)) := by rw [nI_1]; exact pk_mul 28 (k + 1)
  rw [e28]
  have hI := hG.2.1 k (by omega)
  unfold ZI at hI
  cases e : qI G k with
  | none =>
    rw [e] at hI
    rw [hI]
    exact ⟨fun z => absurd rfl z, fun _ => hst k hk rfl e⟩
  | some B =>
    rw [e] at hI
    rw [hI.1]
    have hB := hw.2.1 k B e
    refine ⟨fun _ => ?_, fun z => absurd z (by decide)⟩
    refine m_copies (a := 28 * (k + 1)) (b := 0) (by omega) (by decide) (by omega) hI.2 hB.1.1 hB.1.2.2.2.2.2.2.2.2.1 (fun S1 f1 r1 => ⟨vp_in_nI (n := 16) (by decide) (by decide), ?_⟩)
    have q16 : S1.2.1 28 0 (16 : Int32).toNatClampNeg = nI (aM B) := by have := r1.2.2.2.2.2.1; rwa [Nat.zero_add] at this
    rw [q16]
    exact hok k B hk rfl e S1 (hG.now hw f1 r1) f1.fr
-- SHEETS
theorem RZ.sht {S' : tq_St} {k : Nat} (hG : RZ S G) (fi : S'.1 28 = S.1 28) (fa : ∀ j, j ≠ 25 → j ≠ 26 → j ≠ 27 → S'.2.1 28 j = S.2.1 28 j) (f25 : ∀ j, j ≠ k → S'.2.1 28 25 j = S.2.1 28 25 j ∧ S'.2.1 28 26 j = S.2.1 28 26 j) (f27 : ∀ i, i < 40 * k ∨ 40 * k + 40 ≤ i → S'.2.1 28 27 i = S.2.1 28 27 i) {x : Option Nat × Nat × (Nat → Int32)} (hx : ZH S' k x) : RZ S' (vH G (un (qH G) k x)) := by
  obtain ⟨h1, h2, h3, h4, h5, h6, h7, h8, h9⟩ := hG
  have fR : ∀ g A, RM S g A → RM S' g A := by
    intro g A hR
    unfold RM pg at hR ⊢
    rw [fi, fa 0 (by decide) (by decide) (by decide), fa 1 (by decide) (by decide) (by decide)]
    exact hR
  refine ⟨fR _ _ h1, fun j hj => ?_, ⟨by rw [fi]; exact h3.1, fun i hi => by rw [fa 7 (by decide) (by decide) (by decide)]; exact h3.2 i hi⟩, by rw [fi]; exact h4, ⟨by rw [fi]; exact h5.1, fun i hi => by rw [fa 21 (by decide) (by decide) (by decide)]; exact h5.2 i hi⟩, fun j hj => ?_, by rw [fi]; exact h7, fun i hi => by rw [fa 16 (by decide) (by decide) (by decide)]; exact h8 i hi, fun i hi => by rw [fa 17 (by decide) (by decide) (by decide)]; exact h9 i hi⟩
  · have h2 := h2 j hj
    show ZI S' j (qI G j)
    unfold ZI at h2 ⊢
    split at h2
    · rw [fa 24 (by decide) (by decide) (by decide)]; exact h2
    · rw [fa 24 (by decide) (by decide) (by decide)]; exact ⟨h2.1, fR _ _ h2.2⟩
  · show ZH S' j (un (qH G) k x j)
    by_cases c : j = k
    · subst c; rw [un_s]; exact hx
    · rw [un_n _ _ c]
      have h6 := h6 j hj
      unfold ZH at h6 ⊢
      split at h6
      · rw [(f25 j c).1]; exact h6
      · refine ⟨by rw [(f25 j c).1]; exact h6.1, by rw [(f25 j c).2]; exact h6.2.1, fun i hi => ?_⟩
        rw [f27 _ (by omega)]; exact h6.2.2 i hi
theorem z_sheet_56 {S0 : tq_St} {k : Nat} (hk : k ≤ 3) (hK : ∀ S', S'.1 = S0.1 → (∀ o, o ≠ 28 → S'.2.1 o = S0.2.1 o) → (∀ j, j ≠ 27 → S'.2.1 28 j = S0.2.1 28 j) → (∀ i, i < 40 * k ∨ 40 * k + 40 ≤ i → S'.2.1 28 27 i = S0.2.1 28 27 i) → (∀ i, i < 40 → S'.2.1 28 27 (40 * k + i) = 0) → S'.2.2 = S0.2.2 → K 1 S') : ∀ (m i f : Nat) (S : tq_St), i + m = 40 → m < f → S.1 = S0.1 → (∀ o, o ≠ 28 → S.2.1 o = S0.2.1 o) → (∀ j, j ≠ 27 → S.2.1 28 j = S0.2.1 28 j) → (∀ i, i < 40 * k ∨ 40 * k + 40 ≤ i → S.2.1 28 27 i = S0.2.1 28 27 i) → (∀ j, j < i → S.2.1 28 27 (40 * k + j) = 0) → S.2.2 = S0.2.2 → wp_X7_sheet_56 K f (nI k) (nI i) S
  | 0, i, f + 1, S, h1, h2, a1, a2, a3, a4, a5, a6 => by
    have e : i = 40 := by omega
    subst e
    exact pk_le 40 40 (fun _ => hK S a1 a2 a3 a4 a5 a6) (fun z => absurd z (by omega))
  | m + 1, i, f + 1, S, h1, h2, a1, a2, a3, a4, a5, a6 => by
    unfold wp_X7_sheet_56
    have e40 : (40 : Int32) * nI k + nI i = nI (40 * k + i) := by
      have e : (40 : Int32) * nI k = nI (40 * k) := pk_mul 40 k
      rw [e, nI_add]
    rw [e40, nI_clamp (by omega)]
    refine pk_le 40 i (fun z => absurd z (by omega)) (fun _ => ⟨vp_in_nI (by omega) (by decide), nm_e (nm_r (nI_1 i) ?_)⟩)
    refine z_sheet_56 hk hK m (i + 1) f _ (by omega) (by omega) a1 (fun o ho => (sA_2n S ho).trans (a2 o ho)) (fun j hj => (sA_nk _ _ _ _ _ hj).trans (a3 j hj)) (fun j hj => ?_) (fun j hj => ?_) a6
    · rw [sA_at, if_neg (by omega)]; exact a4 j hj
    · rw [sA_at]
      by_cases e : j = i
      · rw [if_pos (by omega)]
      · rw [if_neg (by omega)]; exact a5 j (by omega)
theorem z_sheet {x y w : Int32} (hG : RZ S G) (hw : wfQ G) (hbad : (∀ k, k ≤ 3 → x ≠ nI k) ∨ (∀ l, l ≤ 2 → y ≠ nI l) ∨ ¬ w ≤ 40 → K (-1) S) (hneg : ∀ k l, k ≤ 3 → x = nI k → l ≤ 2 → y = nI l → w < 0 → K (-14) S) (hok : ∀ k l n, k ≤ 3 → x = nI k → l ≤ 2 → y = nI l → n ≤ 40 → w = nI n → ∀ S', RZ S' (sheetF G k l n) → Fr 28 S S' → K 1 S') : wp_X7_sheet x y w S K := by
  unfold wp_X7_sheet
  refine m_in 0 3 (by decide) (by decide) (by decide) (fun k _ hk e => ⟨fun z => absurd z (by decide), fun _ => ?_⟩) (fun h => ⟨fun _ => hbad (Or.inl (fun c hc => h c (by omega) hc)), fun z => absurd rfl z⟩)
  subst e
  refine m_in 0 2 (by decide) (by decide) (by decide) (fun l _ hl e => ⟨fun z => absurd z (by decide), fun _ => ?_⟩) (fun h => ⟨fun _ => hbad (Or.inr (Or.inl (fun c hc => h c (by omega) hc))), fun z => absurd rfl z⟩)
  subst e
  refine ⟨fun z => ⟨fun z2 => ⟨vp_in_nI (by omega) (by decide), nm_e ⟨vp_in_nI (by omega) (by decide), nm_e ?_⟩⟩, fun z2 => hneg k l hk rfl hl rfl (fa_of_nle z2)⟩, fun z => hbad (Or.inr (Or.inr z))⟩
  have hz : ¬ w < 0 := fun c => by
    rw [Int32.lt_iff_toInt_lt] at c
    rw [Int32.le_iff_toInt_le] at z2
    omega
  obtain ⟨n, hn, rfl⟩ := nI_of2 (n := 40) (by decide) hz z
  rw [nI_clamp (by omega)]
  refine z_sheet_56 (S0 := sA (sA S 28 25 k (nI l)) 28 26 k (nI n)) hk (fun S' a1 a2 a3 a4 a5 a6 => ?_) 40 0 2000 _ (by omega) (by omega) rfl (fun _ _ => rfl) (fun _ _ => rfl) (fun _ _ => rfl) (fun j hj => by omega) rfl
  refine hok k l n hk rfl hl rfl hn rfl S' (hG.sht (k := k) (by rw [a1]; rfl) (fun j b1 b2 b3 => ?_) (fun j hj => ⟨?_, ?_⟩) (fun i hi => ?_) ⟨?_, ?_, fun i hi => a5 i hi⟩) ⟨fun o ho => ⟨by rw [a1]; rfl, by rw [a2 o ho, sA_2n _ ho, sA_2n _ ho]⟩, a6⟩
  · rw [a3 j b3, sA_nk _ _ _ _ _ b2, sA_nk _ _ _ _ _ b1]
  · rw [a3 25 (by decide), sA_nk _ _ _ _ _ (by decide), sA_at, if_neg hj]
  · rw [a3 26 (by decide), sA_at, if_neg hj, sA_nk _ _ _ _ _ (by decide)]
  · rw [a4 i hi, sA_nk _ _ _ _ _ (by decide), sA_nk _ _ _ _ _ (by decide)]
  · rw [a3 25 (by decide), sA_nk _ _ _ _ _ (by decide), sA_at, if_pos rfl]
  · rw [a3 26 (by decide), sA_at, if_pos rfl]
theorem z_torn (hG : RZ S G) (hK : K (nI (qO G)) S) : wp_X7_torn S K := by
  unfold wp_X7_torn
  rw [hG.2.2.2.2.2.2.1]
  exact hK
end Z5
end
section
section Z6
variable {S : tq_St} {G : aQ} {K : Int32 → tq_St → Prop} {KL : Int64 → tq_St → Prop}
-- A CELL IS LAID
theorem cut8 (v : Int32) : ((v <<< ((24 : Int32) &&& 31)) >>> ((24 : Int32) &&& 31)) = v.toInt8.toInt32 := by
  apply Int32.toBitVec_inj.1
  have e : ((24 : Int32) &&& 31).toBitVec.smod 32 = 24#32 := by decide
  rw [Int32.toBitVec_shiftRight, Int32.toBitVec_shiftLeft]
  show ((v.toBitVec <<< (((24 : Int32) &&& 31).toBitVec.smod 32)).sshiftRight (((24 : Int32) &&& 31).toBitVec.smod 32).toNat) = (v.toBitVec.signExtend 8).signExtend 32
  rw [e]
  apply BitVec.eq_of_getLsbD_eq
  intro i hi
  have e24 : (24#32 : BitVec 32).toNat = 24 := by decide
  simp only [BitVec.getLsbD_sshiftRight, BitVec.getLsbD_signExtend, BitVec.shiftLeft_eq', BitVec.getLsbD_shiftLeft, BitVec.msb_eq_getLsbD_last, e24]
  by_cases c : i < 8
  · have c1 : 24 + i < 32 := by omega
    have d1 : ¬ 32 ≤ i := by omega
    have d2 : ¬ 24 + i < 24 := by omega
    simp [hi, c, c1, d1, d2]
  · have c1 : ¬ 24 + i < 32 := by omega
    simp [hi, c, c1]
    try omega
theorem cut16 (v : Int32) : ((v <<< ((16 : Int32) &&& 31)) >>> ((16 : Int32) &&& 31)) = v.toInt16.toInt32 := by
  apply Int32.toBitVec_inj.1
  have e : ((16 : Int32) &&& 31).toBitVec.smod 32 = 16#32 := by decide
  rw [Int32.toBitVec_shiftRight, Int32.toBitVec_shiftLeft]
  show ((v.toBitVec <<< (((16 : Int32) &&& 31).toBitVec.smod 32)).sshiftRight (((16 : Int32) &&& 31).toBitVec.smod 32).toNat) = (v.toBitVec.signExtend 16).signExtend 32
  rw [e]
  apply BitVec.eq_of_getLsbD_eq
  intro i hi
  have e24 : (16#32 : BitVec 32).toNat = 16 := by decide
  simp only [BitVec.getLsbD_sshiftRight, BitVec.getLsbD_signExtend, BitVec.shiftLeft_eq', BitVec.getLsbD_shiftLeft, BitVec.msb_eq_getLsbD_last, e24]
  by_cases c : i < 16
  · have c1 : 16 + i < 32 := by omega
    have d1 : ¬ 32 ≤ i := by omega
    have d2 : ¬ 16 + i < 16 := by omega
    simp [hi, c, c1, d1, d2]
  · have c1 : ¬ 16 + i < 32 := by omega
    simp [hi, c, c1]
    try omega
theorem z_lay {x y v : Int32} (hG : RZ S G) (hw : wfQ G) (hbad : (∀ k, k ≤ 3 → x ≠ nI k) → K (-1) S) (hnul : ∀ k, k ≤ 3 → x = nI k → (qH G k).1 = none → K (-11) S) (hidx : ∀ k l, k ≤ 3 → x = nI k → (qH G k).1 = some l → (∀ i, i < (qH G k).2.1 → y ≠ nI i) → K (-12) S) (hok : ∀ k l i, k ≤ 3 → x = nI k → (qH G k).1 = some l → i < (qH G k).2.1 → y = nI i → ∀ S', RZ S' (layF G k l i v) → Fr 28 S S' → K 1 S') : wp_X7_lay x y v S K := by
  unfold wp_X7_lay
  refine m_in 0 3 (by decide) (by decide) (by decide) (fun k _ hk e => ⟨fun _ => ⟨by rw [e]; exact vp_in_nI (by omega) (by decide), ?_⟩, fun z => absurd z (by decide)⟩) (fun h => ⟨fun z => absurd rfl z, fun _ => hbad (fun c hc => h c (by omega) hc)⟩)
  subst e
  have v4 : vp_in (nI k) 4 := vp_in_nI (by omega) (by decide)
  have hZ := hG.2.2.2.2.2.1 k (by omega)
  have hl40 := hw.2.2.2.2.2.2.1 k
  rw [nI_clamp (n := k) (by omega)]
  unfold ZH at hZ
  cases e : (qH G k).1 with
  | none =>
    rw [e] at hZ
    rw [hZ]
    exact ⟨fun z => absurd rfl z, fun _ => hnul k hk rfl e⟩
  | some l =>
    rw [e] at hZ
    obtain ⟨c1, c2, c3⟩ := hZ
    have hl := hw.2.2.2.2.2.1 k l e
    rw [c1, c2]
    refine ⟨fun _ => ⟨v4, ?_⟩, fun z => absurd z (oI_ne (by omega))⟩
    refine m_inN (by omega) (fun i hi ei => ⟨fun _ => ⟨v4, ?_⟩, fun z => absurd z (by decide)⟩) (fun h => ⟨fun z => absurd rfl z, fun _ => hidx k l hk rfl e h⟩)
    subst ei
    have e40 : (40 : Int32) * nI k + nI i = nI (40 * k + i) := by
      have e : (40 : Int32) * nI k = nI (40 * k) := pk_mul 40 k
      rw [e, nI_add]
    rw [e40, nI_clamp (n := 40 * k + i) (by omega), c1, cut8, cut16]
    have v160 : vp_in (nI (40 * k + i)) 160 := vp_in_nI (by omega) (by decide)
    have e0 : (0 : Int32) = nI 0 := rfl
    have e1 : (1 : Int32) = nI 1 := rfl
    rw [e0, e1, nI_eq (by omega) (by decide), nI_eq (by omega) (by decide)]
    have hgo : ∀ u : Int32, u = cutL l v → K (nI 1) (sA S 28 27 (40 * k + i) u) := by
      intro u eu
      refine hok k l i hk rfl e hi rfl _ ?_ (Fr.rf.A _ _ _)
      have h9 : RZ (sA S 28 27 (40 * k + i) u) (vH G (un (qH G) k (some l, (qH G k).2.1, un (qH G k).2.2 i (cutL l v)))) := by
        refine RZ.sht (S' := sA S 28 27 (40 * k + i) u) (x := (some l, (qH G k).2.1, un (qH G k).2.2 i (cutL l v))) hG (k := k) rfl (fun j b1 b2 b3 => sA_nk _ _ _ _ _ b3) (fun j hj => ⟨by rw [sA_nk _ _ _ _ _ (by decide)], by rw [sA_nk _ _ _ _ _ (by decide)]⟩) (fun j hj => by rw [sA_at, if_neg (by omega)]) ⟨by rw [sA_nk _ _ _ _ _ (by decide)]; exact c1, by rw [sA_nk _ _ _ _ _ (by decide)]; exact c2, fun j hj => ?_⟩
        show _ = un (qH G k).2.2 i (cutL l v) j
        rw [sA_at]
        by_cases c : j = i
        · rw [if_pos (by omega), c, un_s, eu]
        · rw [if_neg (by omega), un_n _ _ c]; exact c3 j hj
      exact h9
    refine ⟨fun n0 => ⟨v4, fun n1 => ⟨v160, nm_e (hgo _ ?_)⟩, fun n1 => ⟨v160, nm_e (hgo _ ?_)⟩⟩, fun n0 => ⟨v160, nm_e (hgo _ ?_)⟩⟩
    · unfold cutL; rw [if_neg n0, if_neg n1]
    · unfold cutL; rw [if_neg n0, if_pos n1]
    · unfold cutL; rw [if_pos n0]
end Z6
end
section
section Z7
variable {S : tq_St} {G : aQ} {K : Int32 → tq_St → Prop} {KL : Int64 → tq_St → Prop}
theorem zi_val {k : Nat} (hG : RZ S G) (hk : k < 2) : S.2.1 28 24 k = bI (qI G k).isSome := by
  have h := hG.2.1 k hk
  unfold ZI at h
  cases e : qI G k with
  | none => rw [e] at h; exact h
  | some B => rw [e] at h; exact h.1
theorem z_count_46 {x : Int32} {w : Nat} (hG : RZ S G) (hw : wfQ G) (hbad : (∀ w, w ≤ 5 → x ≠ nI w) → K (-1) S) (h0 : x = 0 → K (nI (qS G).1) S) (h1 : x = 1 → K (nImg G) S) (h2 : x = 2 → K (nI (qT G).1) S) (h3 : x = 3 → K (match (qH G 0).1 with | none => -4 | some _ => nI (qH G 0).2.1) S) (h4 : x = 4 → K (nI w) S) (h5 : x = 5 → K (nI (trmF (qA G))) S) : ∀ (m i f : Nat), i + m = aC (qA G) → m < f → wp_X7_count_46 K f x (nI w) (nI (fb_ct (fun i => decide (aA (qA G) i = 6)) i)) (nI i) S
  | 0, i, f + 1, g1, g2 => by
    have hc := hw.1.2.2.2.2.2.2.2.2.1
    have q27 : S.2.1 28 0 (27 : Int32).toNatClampNeg = nI (aC (qA G)) := by have := hG.1.2.2.2.2.2.2.2.2.1; rwa [Nat.zero_add] at this
    unfold wp_X7_count_46
    rw [q27]
    refine ⟨vp_in_nI (n := 27) (by decide) (by decide), pk_le (aC (qA G)) i (fun _ => ?_) (fun z => absurd z (by omega))⟩
    rw [hG.2.2.1.1, hG.zs.1, show i = aC (qA G) by omega]
    have c0 : (0 : Int32).toNatClampNeg = 0 := by decide
    have c1 : (1 : Int32).toNatClampNeg = 1 := by decide
    refine ⟨fun z => hbad (fun w hw e => ?_), h0, fun e => ?_, h2, fun e => ?_, h4, h5⟩
    · rw [e, nI_toInt (by omega)] at z
      omega
    · have h1 := h1 e
      unfold nImg at h1
      unfold wp_X7_count_147
      rw [c0, c1, zi_val hG (k := 0) (by decide), zi_val hG (k := 1) (by decide)]
      have i0 : vp_in 0 2 := vp_in_nI (n := 0) (by decide) (by decide)
      have i1 : vp_in 1 2 := vp_in_nI (n := 1) (by decide) (by decide)
      refine ⟨i0, ?_⟩
      cases e0 : (qI G 0).isSome <;> cases e1 : (qI G 1).isSome <;> rw [e0, e1] at h1
      · exact ⟨fun _ => ⟨i1, fun _ => h1, fun z => absurd rfl z⟩, fun z => absurd rfl z⟩
      · exact ⟨fun _ => ⟨i1, fun z => absurd z (by decide), fun _ => h1⟩, fun z => absurd rfl z⟩
      · exact ⟨fun z => absurd z (by decide), fun _ => ⟨i1, fun _ => h1, fun z => absurd rfl z⟩⟩
      · exact ⟨fun z => absurd z (by decide), fun _ => ⟨i1, fun z => absurd z (by decide), fun _ => h1⟩⟩
    · have h3 := h3 e
      have hC := hG.2.2.2.2.2.1 0 (by decide)
      unfold ZH at hC
      have i0 : vp_in 0 4 := vp_in_nI (n := 0) (by decide) (by decide)
      rw [c0]
      refine ⟨i0, ?_⟩
      cases el : (qH G 0).1 with
      | none =>
        rw [el] at hC h3
        rw [hC]
        exact ⟨fun z => absurd rfl z, fun _ => h3⟩
      | some l =>
        have hl := hw.2.2.2.2.2.1 0 l el
        rw [el] at hC h3
        rw [hC.1, hC.2.1]
        exact ⟨fun _ => ⟨i0, h3⟩, fun z => absurd z (oI_ne (by omega))⟩
  | m + 1, i, f + 1, g1, g2 => by
    have hn := hw.1.1
    have hc := hw.1.2.2.2.2.2.2.2.2.1
    have q27 : S.2.1 28 0 (27 : Int32).toNatClampNeg = nI (aC (qA G)) := by have := hG.1.2.2.2.2.2.2.2.2.1; rwa [Nat.zero_add] at this
    have ih := z_count_46 hG hw hbad h0 h1 h2 h3 h4 h5 m (i + 1) f (by omega) (by omega)
    rw [fb_ct_succ] at ih
    have ho := hw.1.2.2.2.2.2.2.2.2.2 i (by omega)
    unfold wp_X7_count_46
    rw [q27]
    refine ⟨vp_in_nI (n := 27) (by decide) (by decide), pk_le (aC (qA G)) i (fun z => absurd z (by omega)) (fun hi => ?_)⟩
    have i19 : (19 : Int32) + nI i = nI (19 + i) := nI_add 19 i
    have q : S.2.1 28 0 (19 + i) = nI (aA (qA G) i) := by have := hG.1.2.2.2.2.2.2.2.2.2.1 i hi; rwa [Nat.zero_add] at this
    have e6 : (6 : Int32) = nI 6 := rfl
    rw [i19, nI_clamp (by omega), q, e6, nI_eq (by omega) (by decide)]
    refine ⟨vp_in_nI (by omega) (by decide), fun z => ?_, fun z => ?_⟩
    · unfold wp_X7_count_79
      rw [if_neg (by simp [z])] at ih
      exact nm_r (nI_add _ 0) (nm_r (nI_1 i) ih)
    · unfold wp_X7_count_79
      rw [if_pos (by simp [z])] at ih
      exact nm_r (nI_add _ 1) (nm_r (nI_1 i) ih)
theorem z_count_7 {x : Int32} (hG : RZ S G) (hw : wfQ G) (hK : wp_X7_count_46 K 2000 x (nI (wepF (qA G))) 0 0 S) : ∀ (m p f : Nat), p + m = aN (qA G) → m < f → wp_X7_count_7 K f x (nI (fb_ct (fun p => decide (aW (qA G) p ≠ 0)) p)) 0 (nI p) S
  | 0, p, f + 1, g1, g2 => by
    have hn := hw.1.1
    unfold wp_X7_count_7
    rw [hG.1.1]
    refine pk_le (aN (qA G)) p (fun _ => ?_) (fun z => absurd z (by omega))
    rw [show p = aN (qA G) by omega]
    exact hK
  | m + 1, p, f + 1, g1, g2 => by
    have hn := hw.1.1
    have ih := z_count_7 hG hw hK m (p + 1) f (by omega) (by omega)
    rw [fb_ct_succ] at ih
    have hW := hw.1.2.2.2.1 p
    unfold wp_X7_count_7
    rw [hG.1.1]
    refine pk_le (aN (qA G)) p (fun z => absurd z (by omega)) (fun hp => ?_)
    have i10 : (10 : Int32) + nI p = nI (10 + p) := nI_add 10 p
    have q : S.2.1 28 0 (10 + p) = nI (aW (qA G) p) := by have := hG.1.2.2.2.1 p hp; rwa [Nat.zero_add] at this
    rw [i10, nI_clamp (by omega), q]
    refine ⟨vp_in_nI (by omega) (by decide), pk_le (aW (qA G) p) 0 (fun z => ?_) (fun z => ?_)⟩
    · unfold wp_X7_count_35
      rw [if_neg (by simp; omega)] at ih
      exact nm_r (nI_add _ 0) (nm_r (nI_1 p) ih)
    · unfold wp_X7_count_35
      rw [if_pos (by simp; omega)] at ih
      exact nm_r (nI_add _ 1) (nm_r (nI_1 p) ih)
theorem z_count {x : Int32} (hG : RZ S G) (hw : wfQ G) (hbad : (∀ w, w ≤ 5 → x ≠ nI w) → K (-1) S) (h0 : x = 0 → K (nI (qS G).1) S) (h1 : x = 1 → K (nImg G) S) (h2 : x = 2 → K (nI (qT G).1) S) (h3 : x = 3 → K (match (qH G 0).1 with | none => -4 | some _ => nI (qH G 0).2.1) S) (h4 : x = 4 → K (nI (wepF (qA G))) S) (h5 : x = 5 → K (nI (trmF (qA G))) S) : wp_X7_count x S K := by
  unfold wp_X7_count
  refine z_count_7 hG hw ?_ (aN (qA G)) 0 2000 (by omega) (by have := hw.1.1; omega)
  exact z_count_46 hG hw hbad h0 h1 h2 h3 h4 h5 (aC (qA G)) 0 2000 (by omega) (by have := hw.1.2.2.2.2.2.2.2.2.1; omega)
-- ROWS OF ACTS
theorem m_power_4 {b n : Nat} (hb : b ≤ 6) (hn : n ≤ 4) (hK : K (nI (b ^ n)) S) : ∀ (m i f : Nat), i + m = n → m < f → wp_X7_powerOf_4 K f (nI b) (nI n) (nI (b ^ i)) (nI i) S
  | 0, i, f + 1, h1, h2 => by
    unfold wp_X7_powerOf_4
    refine pk_le n i (fun _ => ?_) (fun z => absurd z (by omega))
    rw [show i = n by omega]
    exact hK
  | m + 1, i, f + 1, h1, h2 => by
    unfold wp_X7_powerOf_4
    refine pk_le n i (fun z => absurd z (by omega)) (fun _ => nm_r (pk_mul _ _) (nm_r (nI_1 i) ?_))
    rw [← Nat.pow_succ]
    exact m_power_4 hb hn hK m (i + 1) f (by omega) (by omega)
theorem m_power {b n : Nat} (hb : b ≤ 6) (hn : n ≤ 4) (hK : K (nI (b ^ n)) S) : wp_X7_powerOf (nI b) (nI n) S K :=
  m_power_4 hb hn hK n 0 2000 (by omega) (by omega)
theorem pow_bd {b n : Nat} (hb : b ≤ 6) (hn : n ≤ 4) : b ^ n ≤ 1296 := by
  have h1 : b ^ n ≤ 6 ^ n := Nat.pow_le_pow_left hb n
  have h2 : (6 : Nat) ^ n ≤ 6 ^ 4 := Nat.pow_le_pow_right (by decide) hn
  have h3 : (6 : Nat) ^ 4 = 1296 := by decide
  omega
def figN (c b n i : Nat) : Nat := c / b ^ (n - 1 - i) % b
theorem m_figure {c b n i : Nat} (hb : 0 < b) (hb6 : b ≤ 6) (hn : n ≤ 4) (hi : i < n) (hc : c ≤ 2000) (hK : K (nI (figN c b n i)) S) : wp_X7_figureOf (nI c) (nI b) (nI n) (nI i) S K := by
  unfold wp_X7_figureOf
  have e1 : nI n - 1 - nI i = nI (n - 1 - i) := by
    have h1 : nI n - 1 = nI (n - 1) := pk_sub (a := n) (b := 1) (by omega)
    rw [h1, pk_sub (by omega)]
  rw [e1]
  have hp := pow_bd (b := b) (n := n - 1 - i) hb6 (by omega)
  have hp0 : 0 < b ^ (n - 1 - i) := Nat.pow_pos hb
  refine m_power hb6 (by omega) ⟨nI_ne0 hp0 (by omega), nI_ne0 hb (by omega), ?_⟩
  rw [pk_div (by omega) hp0 (by omega)]
  have hq : c / b ^ (n - 1 - i) ≤ c := Nat.div_le_self _ _
  rw [pk_rem (by omega) hb (by omega)]
  exact hK
theorem z_row_8 {S0 : tq_St} {c b n N : Nat} (hb : 0 < b) (hb6 : b ≤ 6) (hn : n ≤ 4) (hc : c ≤ 2000) (hK : ∀ r S' A t, wfE A → aN A = N → RM S' 112 A → TM S' t → t.1 < 32 → FT S0 S' → K r S') : ∀ (m i f : Nat) (A : aE) (t : aY) (S : tq_St), i + m = n → m < f → wfE A → aN A = N → RM S 112 A → TM S t → t.1 < 32 → FT S0 S → wp_X7_rowGoes_8 K f (nI c) (nI b) (nI n) (nI i) S
  | 0, i, f + 1, A, t, S, h1, h2, hw, hN, hR, hT, ht, hF => by
    unfold wp_X7_rowGoes_8
    exact pk_le n i (fun _ => hK 1 S A t hw hN hR hT ht hF) (fun z => absurd z (by omega))
  | m + 1, i, f + 1, A, t, S, h1, h2, hw, hN, hR, hT, ht, hF => by
    unfold wp_X7_rowGoes_8
    refine pk_le n i (fun z => absurd z (by omega)) (fun _ => ?_)
    refine m_figure hb hb6 hn (by omega) hc ?_
    refine m_isAct hR.1 hw.1 (fun a ha e => ⟨fun _ => ?_, fun z => absurd z (by decide)⟩) (fun hno => ⟨fun z => absurd rfl z, fun _ => hK 0 S A t hw hN hR hT ht hF⟩)
    rw [e]
    refine m_acts (t := t) hR hw ha hT (fun S' a1 a2 a3 => nm_r (nI_1 i) ?_)
    exact z_row_8 hb hb6 hn hc hK m (i + 1) f _ _ S' (by omega) (by omega) (playF_wf hw _) ((playF_same A _).1.trans hN) a1 a3 (Nat.or_lt_two_pow (n := 5) ht (plW_32 hw a)) (hF.tr a2)
theorem z_row {c b n : Nat} (hG : RZ S G) (hw : wfQ G) (hb : 0 < b) (hb6 : b ≤ 6) (hn : n ≤ 4) (hc : c ≤ 2000) (hK : ∀ r S' A t, wfE A → aN A = aN (qA G) → RM S' 112 A → TM S' t → t.1 < 32 → FT S S' → K r S') : wp_X7_rowGoes (nI c) (nI b) (nI n) S K := by
  unfold wp_X7_rowGoes
  refine m_begins (g := 0) hG.1 hw.1 (by omega) (fun S1 a1 a2 a3 => ?_)
  exact z_row_8 (S0 := S) hb hb6 hn hc hK n 0 2000 (qA G) (0, 0, none) S1 (by omega) (by omega) hw.1 rfl a1 a3 (by decide) a2
theorem z_best_49 {S0 : tq_St} {n w : Nat} (hG0 : RZ S0 G) (hw : wfQ G) (hn : n ≤ 4) (hwh : w ≤ 1 ∨ (10 ≤ w ∧ w ≤ 13)) (hK : ∀ r S', FZ S0 S' → K r S') : ∀ (m c f b : Nat) (v3 v4 : Int32) (S : tq_St), c + m = 6 ^ n → m < f → b ≤ 2000 → FZ S0 S → wp_X7_best_49 K f (nI n) (nI w) v3 v4 (nI b) (nI c) S := by
  have hp := pow_bd (b := 6) (n := n) (by decide) hn
  intro m
  induction m with
  | zero =>
    intro c f b v3 v4 S h1 h2 hb hF
    obtain ⟨f, rfl⟩ : ∃ k, f = k + 1 := ⟨f - 1, by omega⟩
    have hS := fun r => hK r S hF
    unfold wp_X7_best_49
    refine m_power (b := 6) (by decide) hn (pk_le (6 ^ n) c (fun _ => ⟨fun z0 => ⟨fun z1 => ?_, fun _ => hS _⟩, fun _ => hS _⟩) (fun z => absurd z (by omega)))
    have hw10 : 10 ≤ w ∧ w ≤ 13 := by
      rcases hwh with c | c
      · rcases (by omega : w = 0 ∨ w = 1) with d | d
        · exact absurd (by rw [d]; rfl) z0
        · exact absurd (by rw [d]; rfl) z1
      · exact c
    have e10 : nI w - 10 = nI (w - 10) := pk_sub (a := w) (b := 10) hw10.1
    rw [e10]
    exact pk_le n (w - 10) (fun _ => hS _) (fun z => m_figure (b := 6) (by decide) (by decide) hn z hb (hS _))
  | succ m ih =>
    intro c f b v3 v4 S h1 h2 hb hF
    obtain ⟨f, rfl⟩ : ∃ k, f = k + 1 := ⟨f - 1, by omega⟩
    unfold wp_X7_best_49
    refine m_power (b := 6) (by decide) hn (pk_le (6 ^ n) c (fun z => absurd z (by omega)) (fun _ => ?_))
    have hG := hG0.fz hw hF
    refine z_row (b := 6) hG hw (by decide) (by decide) hn (by omega) (fun r S1 A t hwA hN hR hT ht hFT => ?_)
    have hF1 := hF.tr hFT.fz
    refine ⟨fun _ => nm_r (nI_1 c) (ih (c + 1) f b v3 v4 S1 (by omega) (by omega) hb hF1), fun _ => ?_⟩
    rw [hT.1]
    refine m_bitsOf (by omega) ?_
    have h134 : ∀ (v8 w0 : Int32) (b' : Nat), b' ≤ 2000 → wp_X7_best_134 K (wp_X7_best_49 K f) (nI n) (nI w) v4 (nI b') (nI c) v8 w0 S1 := fun v8 w0 b' hb' => ⟨fun _ => nm_r (nI_1 c) (ih (c + 1) f b' _ _ S1 (by omega) (by omega) hb' hF1), fun _ => nm_e (nm_r (nI_1 c) (ih (c + 1) f b' _ _ S1 (by omega) (by omega) hb' hF1))⟩
    have h121 : ∀ (v7 v8 : Int32) (b' : Nat), b' ≤ 2000 → wp_X7_best_121 K (wp_X7_best_49 K f) (nI n) (nI w) v3 v4 (nI c) v7 v8 (nI b') S1 := fun v7 v8 b' hb' => ⟨fun _ => h134 _ _ b' hb', fun _ => h134 _ _ b' hb'⟩
    have h107 : ∀ (v7 w0 : Int32), wp_X7_best_107 K (wp_X7_best_49 K f) (nI n) (nI w) v3 v4 (nI b) (nI c) v7 w0 S1 := fun v7 w0 => ⟨fun _ => h121 _ _ b hb, fun _ => h121 _ _ c (by omega)⟩
    exact ⟨fun _ => h107 _ 1, fun _ => ⟨fun _ => h107 _ 0, fun _ => ⟨fun _ => h107 _ 0, fun _ => h107 _ 1⟩⟩⟩
theorem z_best {x y : Int32} (hG : RZ S G) (hw : wfQ G) (hK : ∀ r S', RZ S' G → Fr 28 S S' → K r S') : wp_X7_best x y S K := by
  have hS := fun r => hK r S hG Fr.rf
  unfold wp_X7_best
  refine m_in 0 4 (by decide) (by decide) (by decide) (fun n _ hn e => ⟨fun z => absurd z (by decide), fun _ => ?_⟩) (fun h => ⟨fun _ => hS _, fun z => absurd rfl z⟩)
  subst e
  have h38 : ∀ w : Nat, y = nI w → (w ≤ 1 ∨ (10 ≤ w ∧ w ≤ 13)) → wp_X7_best_38 K (nI n) y S := by
    intro w e hwh
    subst e
    unfold wp_X7_best_38
    have hp := pow_bd (b := 6) (n := n) (by decide) hn
    exact z_best_49 hG hw hn hwh (fun r S' f => hK r S' (hG.fz hw f) f.1) (6 ^ n) 0 2000 0 _ _ S (by omega) (by omega) (by omega) FZ.rf
  refine m_in 0 1 (by decide) (by decide) (by decide) (fun w _ hw1 e => ⟨fun _ => h38 w e (Or.inl hw1), fun z => absurd z (by decide)⟩) (fun h => ⟨fun z => absurd rfl z, fun _ => ?_⟩)
  exact m_in 10 13 (by decide) (by decide) (by decide) (fun w hw1 hw2 e => ⟨fun _ => h38 w e (Or.inr ⟨hw1, hw2⟩), fun z => absurd z (by decide)⟩) (fun h => ⟨fun z => absurd rfl z, fun _ => hS _⟩)
theorem z_home_50 {S0 : tq_St} {rec42 : Int32 → Int32 → Int32 → tq_St → Prop} {n w : Nat} {v1 : Int32} (hG0 : RZ S0 G) (hw : wfQ G) (hn : n ≤ 3) (hwh : w = 0 ∨ (10 ≤ w ∧ w ≤ 12)) (hK : ∀ r S', FZ S0 S' → K r S') (hrec : ∀ S', FZ S0 S' → rec42 v1 (nI w) (nI (n + 1)) S') : ∀ (m c f : Nat) (S : tq_St), c + m = 5 ^ n → m < f → FZ S0 S → wp_X7_home_50 K rec42 f v1 (nI w) (nI n) (nI c) S := by
  have hp := pow_bd (b := 5) (n := n) (by decide) (by omega)
  intro m
  induction m with
  | zero =>
    intro c f S h1 h2 hF
    obtain ⟨f, rfl⟩ : ∃ k, f = k + 1 := ⟨f - 1, by omega⟩
    unfold wp_X7_home_50
    exact m_power (b := 5) (by decide) (by omega) (pk_le (5 ^ n) c (fun _ => nm_r (nI_1 n) (hrec S hF)) (fun z => absurd z (by omega)))
  | succ m ih =>
    intro c f S h1 h2 hF
    obtain ⟨f, rfl⟩ : ∃ k, f = k + 1 := ⟨f - 1, by omega⟩
    unfold wp_X7_home_50
    refine m_power (b := 5) (by decide) (by omega) (pk_le (5 ^ n) c (fun z => absurd z (by omega)) (fun _ => ?_))
    have hG := hG0.fz hw hF
    refine z_row (b := 5) hG hw (by decide) (by decide) (by omega) (by omega) (fun r S1 A t hwA hN hR hT ht hFT => ?_)
    have hF1 := hF.tr hFT.fz
    refine ⟨fun _ => nm_r (nI_1 c) (ih (c + 1) f S1 (by omega) (by omega) hF1), fun _ => ?_⟩
    refine m_tramOn (g := 112) hR hwA (by decide) (fun S2 b1 b2 => ?_)
    have hF2 := hF1.tr (b2.fz (by decide))
    have hS := fun r => hK r S2 hF2
    refine ⟨fun _ => nm_r (nI_1 c) (ih (c + 1) f S2 (by omega) (by omega) hF2), fun _ => ⟨fun z0 => ?_, fun _ => hS _⟩⟩
    have hw10 : 10 ≤ w ∧ w ≤ 12 := by
      rcases hwh with c | c
      · exact absurd (by rw [c]; rfl) z0
      · exact c
    have e10 : nI w - 10 = nI (w - 10) := pk_sub (a := w) (b := 10) hw10.1
    rw [e10]
    exact pk_le n (w - 10) (fun _ => hS _) (fun z => m_figure (b := 5) (by decide) (by decide) (by omega) z (by omega) (hS _))
theorem z_home_42 {S0 : tq_St} {w : Nat} {v1 : Int32} (hG0 : RZ S0 G) (hw : wfQ G) (hwh : w = 0 ∨ (10 ≤ w ∧ w ≤ 12)) (hK : ∀ r S', FZ S0 S' → K r S') : ∀ (m n f : Nat) (S : tq_St), n + m = 4 → m < f → FZ S0 S → wp_X7_home_42 K f v1 (nI w) (nI n) S
  | 0, n, f + 1, S, h1, h2, hF => by
    unfold wp_X7_home_42
    exact pk_le 4 n (fun _ => hK _ S hF) (fun z => absurd z (by omega))
  | m + 1, n, f + 1, S, h1, h2, hF => by
    have hp := pow_bd (b := 5) (n := n) (by decide) (by omega)
    unfold wp_X7_home_42
    refine pk_le 4 n (fun z => absurd z (by omega)) (fun _ => ?_)
    exact z_home_50 hG0 hw (by omega) hwh hK (fun S' f' => z_home_42 hG0 hw hwh hK m (n + 1) f S' (by omega) (by omega) f') (5 ^ n) 0 2000 S (by omega) (by omega) hF
theorem z_home {x y : Int32} (hG : RZ S G) (hw : wfQ G) (hK : ∀ r S', RZ S' G → Fr 28 S S' → K r S') : wp_X7_home x y S K := by
  have hn := hw.1.1
  have hS := fun r => hK r S hG Fr.rf
  unfold wp_X7_home
  refine m_isOne hG.1.1 hn (fun p hp e => ⟨fun z => absurd z (by decide), fun _ => ?_⟩) (fun hno => ⟨fun _ => hS _, fun z => absurd rfl z⟩)
  subst e
  have h28 : ∀ w : Nat, y = nI w → (w = 0 ∨ (10 ≤ w ∧ w ≤ 12)) → wp_X7_home_28 K (nI p) y S := by
    intro w e hwh
    subst e
    unfold wp_X7_home_28
    refine m_waits (g := 0) hG.1.2.2.2.2.1 (by decide) hw.1.g31 (by omega) (fun _ => ⟨fun _ => ?_, fun z => absurd z (by decide)⟩) (fun _ => ⟨fun z => absurd rfl z, fun _ => hS _⟩)
    exact z_home_42 hG hw hwh (fun r S' f => hK r S' (hG.fz hw f) f.1) 4 0 2000 S (by omega) (by omega) FZ.rf
  refine ⟨fun e => h28 0 e (Or.inl rfl), fun _ => ?_⟩
  exact m_in 10 12 (by decide) (by decide) (by decide) (fun w hw1 hw2 e => ⟨fun _ => h28 w e (Or.inr ⟨hw1, hw2⟩), fun z => absurd z (by decide)⟩) (fun h => ⟨fun z => absurd rfl z, fun _ => hS _⟩)
end Z7
end
section
section Z8
variable {S : tq_St} {G : aQ} {K : Int32 → tq_St → Prop} {KL : Int64 → tq_St → Prop}
-- LOWEST TERMS
theorem lgc_0 {a : Nat} (h : a < 2 ^ 63) : lg_cmp (lN a) 0 = 0 ↔ a = 0 := by
  have e0 : (0 : Int64) = lN 0 := rfl
  constructor
  · intro z
    rcases Nat.eq_zero_or_pos a with c | c
    · exact c
    · exfalso
      have : 0 < lg_cmp (lN a) 0 := by
        have e9 : (0 : Int64).toInt = 0 := (by decide)
        rw [lgc_gt, pk_lT h, e9]
        omega
      rw [z] at this
      exact absurd this (by decide)
  · intro z
    subst z
    decide
theorem lN_ne {a : Nat} (h0 : 0 < a) (h : a < 2 ^ 63) : ¬ lN a = 0 := by
  intro e
  have e0 : (0 : Int64) = lN 0 := rfl
  rw [e0, pk_lEQ h (by decide)] at e
  omega
theorem z_low_6 {u d : Int64} {y : Int32} (hK : ∀ r, KL r S) : ∀ (k a b f : Nat), b < 2 ^ k → a < 2 ^ 63 → b < 2 ^ 63 → 2 * k + 1 ≤ f → (0 < a ∨ 0 < b) → wp_X7_lowest_6 KL f u d y (lN a) (lN b) S := by
  have hend : ∀ a f : Nat, 0 < a → a < 2 ^ 63 → 1 ≤ f → wp_X7_lowest_6 KL f u d y (lN a) (lN 0) S := by
    intro a f h0 ha hf
    obtain ⟨f, rfl⟩ : ∃ k, f = k + 1 := ⟨f - 1, by omega⟩
    refine ⟨fun _ => ⟨fun _ => ⟨lN_ne h0 ha, hK _⟩, fun _ => ⟨lN_ne h0 ha, hK _⟩⟩, fun z => absurd (by decide) z⟩
  have hstep : ∀ a b f : Nat, 0 < b → a < 2 ^ 63 → b < 2 ^ 63 → wp_X7_lowest_6 KL f u d y (lN b) (lN (a % b)) S → wp_X7_lowest_6 KL (f + 1) u d y (lN a) (lN b) S := by
    intro a b f h0 ha hb h
    refine ⟨fun z => absurd ((lgc_0 hb).mp z) (by omega), fun _ => ⟨lN_ne h0 hb, nm_r (pk_lRem ha h0 hb) h⟩⟩
  intro k
  induction k with
  | zero =>
    intro a b f hk ha hb hf hab
    have e : b = 0 := by
      have : (2 : Nat) ^ 0 = 1 := rfl
      omega
    subst e
    exact hend a f (by omega) ha (by omega)
  | succ k ih =>
    intro a b f hk ha hb hf hab
    rcases Nat.eq_zero_or_pos b with c | c
    · subst c
      exact hend a f (by omega) ha (by omega)
    · obtain ⟨f, rfl⟩ : ∃ j, f = j + 2 := ⟨f - 2, by omega⟩
      have hr : a % b < b := Nat.mod_lt _ c
      refine hstep a b (f + 1) c ha hb ?_
      rcases Nat.eq_zero_or_pos (a % b) with c2 | c2
      · rw [c2]
        exact hend b (f + 1) c hb (by omega)
      · refine hstep b (a % b) f c2 hb (by omega) ?_
        have h2 : b % (a % b) < a % b := Nat.mod_lt _ c2
        have h3 : b % (a % b) + (a % b) ≤ b := by
          have h4 := Nat.div_add_mod b (a % b)
          have h5 : 1 ≤ b / (a % b) := Nat.div_pos (by omega) c2
          have h6 : a % b ≤ a % b * (b / (a % b)) := Nat.le_mul_of_pos_right _ h5
          omega
        have h7 : (2 : Nat) ^ (k + 1) = 2 * 2 ^ k := by rw [Nat.pow_succ]; omega
        exact ih (a % b) (b % (a % b)) f (by omega) (by omega) (by omega) (by omega) (Or.inl c2)
theorem z_lowest {a b : Nat} {y : Int32} (ha : a < 2 ^ 63) (hb : b < 2 ^ 63) (h0 : 0 < b) (hK : ∀ r, KL r S) : wp_X7_lowest (lN a) (lN b) y S KL :=
  z_low_6 hK 63 a b 2000 hb ha hb (by decide) (Or.inr h0)
-- BY FAILS
theorem z_bf_123 {S0 : tq_St} {rec99 : Int32 → Int32 → Int32 → Int32 → Int64 → Int64 → Int32 → tq_St → Prop} {v s u : Nat} {p y v4 : Int32} {v7 : Int64} (hG0 : RZ S0 G) (hw : wfQ G) (hv : v ≤ 10) (hs : s < 256) (hp : p = -4 ∨ ∃ q, q < 5 ∧ p = nI q) (hrec : ∀ S' u', u' ≤ u + 3100000000 → FZ S0 S' → rec99 (nI v) p y v4 (lN u') v7 (nI (s + 1)) S') : ∀ (m i f o : Nat) (S : tq_St), i + m = 8 → m < f → o ≤ 10 ^ i → FZ S0 S → wp_X7_byFails_123 KL rec99 f (nI v) p y v4 (lN u) v7 (nI s) (lN o) (nI i) S
  | 0, i, f + 1, o, S, h1, h2, ho, hF => by
    have hi : i = 8 := by omega
    subst hi
    have hG := hG0.fz hw hF
    unfold wp_X7_byFails_123
    refine pk_le 8 8 (fun _ => ?_) (fun z => absurd z (by omega))
    refine m_planGoes (g := 0) (but := s) hG.1 hw.1 (by omega) (by omega) (fun S1 a1 a2 a3 => ?_)
    have hF1 := hF.tr a3.fz
    have hwp := (goM_ok (ac := aA (qA G)) (but := s) (aC (qA G)) 0 (qA G) (0, 0, none) hw.1).1
    have hgl := hwp.gl
    have h211 : ∀ c : Nat, c ≤ 31 → wp_X7_byFails_211 KL rec99 (nI v) p y v4 v7 (nI s) (lN u) (lN o) (nI c) S1 := by
      intro c hc
      unfold wp_X7_byFails_211
      have e1 : lN u + lN o * (nI c).toInt64 = lN (u + o * c) := by
        rw [nI_l (by omega)]
        apply Int64.toBitVec_inj.1
        show BitVec.ofNat 64 u + BitVec.ofNat 64 o * BitVec.ofNat 64 c = BitVec.ofNat 64 (u + o * c)
        rw [BitVec.ofNat_add, BitVec.ofNat_mul]
      refine nm_r e1 (nm_r (nI_1 s) (hrec S1 _ ?_ hF1))
      have h9 : o * c ≤ 10 ^ 8 * 31 := Nat.mul_le_mul ho hc
      have e9 : (10 : Nat) ^ 8 * 31 = 3100000000 := (by decide)
      rw [e9] at h9
      omega
    have q127 : S1.2.1 28 0 (127 : Int32).toNatClampNeg = nI (aG (planM (qA G) s).1) := a1.2.2.2.2.1
    rcases hp with e | ⟨q, hq, e⟩
    · subst e
      exact ⟨fun z => absurd rfl z, fun _ => z_goneThen a1 hwp (h211 _ (pcN_le _))⟩
    · subst e
      rw [q127, zb_val (Nat.lt_of_lt_of_le hgl (by decide)) (by omega)]
      exact ⟨fun _ => ⟨vp_in_nI (n := 127) (by decide) (by decide), h211 _ (by split <;> omega)⟩, fun z => absurd z (oI_ne (by omega))⟩
  | m + 1, i, f + 1, o, S, h1, h2, ho, hF => by
    unfold wp_X7_byFails_123
    have hpow : (10 : Nat) ^ (i + 1) = 10 * 10 ^ i := by rw [Nat.pow_succ]; omega
    have h167 : ∀ c : Nat, c ≤ 10 → ∀ w1 : Int64, w1 = lN c → wp_X7_byFails_167 KL (wp_X7_byFails_123 KL rec99 f) rec99 (nI v) p y v4 (lN u) v7 (nI s) (nI i) (lN o) w1 S := by
      intro c hc w1 e
      subst e
      unfold wp_X7_byFails_167
      have e1 : lN o * lN c = lN (o * c) := by
        apply Int64.toBitVec_inj.1
        show BitVec.ofNat 64 o * BitVec.ofNat 64 c = BitVec.ofNat 64 (o * c)
        rw [BitVec.ofNat_mul]
      refine nm_r e1 (nm_r (nI_1 i) (z_bf_123 hG0 hw hv hs hp hrec m (i + 1) f _ S (by omega) (by omega) ?_ hF))
      have : o * c ≤ 10 ^ i * 10 := Nat.mul_le_mul ho hc
      omega
    refine pk_le 8 i (fun z => absurd z (by omega)) (fun _ => ⟨fun _ => ⟨fun _ => h167 (10 - v) (by omega) _ ?_, fun _ => h167 v hv _ (nI_l (by omega))⟩, fun _ => h167 1 (by omega) _ rfl⟩)
    have e10 : (10 : Int32) - nI v = nI (10 - v) := pk_sub (a := 10) (b := v) hv
    rw [e10, nI_l (by omega)]
theorem z_bf_99 {S0 : tq_St} {v d : Nat} {p y v4 : Int32} (hG0 : RZ S0 G) (hw : wfQ G) (hv : v ≤ 10) (hd : 0 < d ∧ d ≤ 100000000) (hp : p = -4 ∨ ∃ q, q < 5 ∧ p = nI q) (hK : ∀ r S', FZ S0 S' → KL r S') : ∀ (m s f u : Nat) (S : tq_St), s + m = 256 → m < f → u ≤ s * 3100000000 → FZ S0 S → wp_X7_byFails_99 KL f (nI v) p y v4 (lN u) (lN d) (nI s) S
  | 0, s, f + 1, u, S, h1, h2, hu, hF => by
    unfold wp_X7_byFails_99
    have hs : s = 256 := by omega
    subst hs
    exact pk_le 256 256 (fun _ => z_lowest (by omega) (by omega) hd.1 (fun r => hK r S hF)) (fun z => absurd z (by omega))
  | m + 1, s, f + 1, u, S, h1, h2, hu, hF => by
    unfold wp_X7_byFails_99
    refine pk_le 256 s (fun z => absurd z (by omega)) (fun _ => ⟨fun _ => nm_r (nI_1 s) ?_, fun _ => ?_⟩)
    · exact z_bf_99 hG0 hw hv hd hp hK m (s + 1) f u S (by omega) (by omega) (Nat.le_trans hu (Nat.mul_le_mul_right _ (Nat.le_succ s))) hF
    · refine z_bf_123 hG0 hw hv (by omega) hp (fun S' u' hu' hF' => ?_) 8 0 2000 1 S (by omega) (by omega) (by decide) hF
      exact z_bf_99 hG0 hw hv hd hp hK m (s + 1) f u' S' (by omega) (by omega) (by rw [Nat.succ_mul]; exact Nat.le_trans hu' (Nat.add_le_add_right hu _)) hF'
theorem z_bf_60 {v : Nat} {p y v4 : Int32} (hG : RZ S G) (hw : wfQ G) (hv : v ≤ 10) (hp : p = -4 ∨ ∃ q, q < 5 ∧ p = nI q) (hK : ∀ r S', FZ S S' → KL r S') : ∀ (m i f d : Nat), i + m = 8 → m < f → 0 < d → d ≤ 10 ^ i → wp_X7_byFails_60 KL f (nI v) p y v4 (lN 0) (lN d) (nI i) S
  | 0, i, f + 1, d, h1, h2, hd0, hd => by
    have hi : i = 8 := by omega
    subst hi
    unfold wp_X7_byFails_60
    exact pk_le 8 8 (fun _ => z_bf_99 hG hw hv ⟨hd0, Nat.le_trans hd (by decide)⟩ hp hK 256 0 2000 0 S (by omega) (by omega) (by omega) FZ.rf) (fun z => absurd z (by omega))
  | m + 1, i, f + 1, d, h1, h2, hd0, hd => by
    have hpow : (10 : Nat) ^ (i + 1) = 10 * 10 ^ i := by rw [Nat.pow_succ]; omega
    unfold wp_X7_byFails_60
    have h87 : ∀ c : Nat, 0 < c → c ≤ 10 → ∀ w1 : Int64, w1 = lN c → wp_X7_byFails_87 KL (wp_X7_byFails_60 KL f) (nI v) p y v4 (lN 0) (nI i) (lN d) w1 S := by
      intro c hc0 hc w1 e
      subst e
      unfold wp_X7_byFails_87
      have e1 : lN d * lN c = lN (d * c) := by
        apply Int64.toBitVec_inj.1
        show BitVec.ofNat 64 d * BitVec.ofNat 64 c = BitVec.ofNat 64 (d * c)
        rw [BitVec.ofNat_mul]
      refine nm_r e1 (nm_r (nI_1 i) (z_bf_60 hG hw hv hp hK m (i + 1) f _ (by omega) (by omega) (Nat.mul_pos hd0 hc0) ?_))
      have : d * c ≤ 10 ^ i * 10 := Nat.mul_le_mul hd hc
      omega
    exact pk_le 8 i (fun z => absurd z (by omega)) (fun _ => ⟨fun _ => h87 1 (by omega) (by omega) _ rfl, fun _ => h87 10 (by omega) (by omega) _ rfl⟩)
theorem z_bf_6 {v : Nat} {p y : Int32} (hG : RZ S G) (hw : wfQ G) (hv : v ≤ 10) (hp : p = -4 ∨ ∃ q, q < 5 ∧ p = nI q) (hK : ∀ r S', FZ S S' → KL r S') : ∀ (m i f : Nat) (v4 : Int32), i + m = aC (qA G) → m < f → wp_X7_byFails_6 KL f (nI v) p y v4 (nI i) S
  | 0, i, f + 1, v4, h1, h2 => by
    have hc := hw.1.2.2.2.2.2.2.2.2.1
    have q27 : S.2.1 28 0 (27 : Int32).toNatClampNeg = nI (aC (qA G)) := by have := hG.1.2.2.2.2.2.2.2.2.1; rwa [Nat.zero_add] at this
    unfold wp_X7_byFails_6
    rw [q27]
    exact ⟨vp_in_nI (n := 27) (by decide) (by decide), pk_le (aC (qA G)) i (fun _ => z_bf_60 hG hw hv hp hK 8 0 2000 1 (by omega) (by omega) (by omega) (by decide)) (fun z => absurd z (by omega))⟩
  | m + 1, i, f + 1, v4, h1, h2 => by
    have hc := hw.1.2.2.2.2.2.2.2.2.1
    have q27 : S.2.1 28 0 (27 : Int32).toNatClampNeg = nI (aC (qA G)) := by have := hG.1.2.2.2.2.2.2.2.2.1; rwa [Nat.zero_add] at this
    unfold wp_X7_byFails_6
    rw [q27]
    have i19 : (19 : Int32) + nI i = nI (19 + i) := nI_add 19 i
    rw [i19]
    have h42 : ∀ w0 w1 : Int32, wp_X7_byFails_42 KL (wp_X7_byFails_6 KL f) (nI v) p y (nI i) w0 w1 S := fun w0 w1 => nm_e (nm_r (nI_1 i) (z_bf_6 hG hw hv hp hK m (i + 1) f _ (by omega) (by omega)))
    exact ⟨vp_in_nI (n := 27) (by decide) (by decide), pk_le (aC (qA G)) i (fun z => absurd z (by omega)) (fun _ => ⟨vp_in_nI (by omega) (by decide), fun _ => h42 _ _, fun _ => h42 _ _⟩)⟩
theorem z_byFails {v : Nat} {p y : Int32} (hG : RZ S G) (hw : wfQ G) (hv : v ≤ 10) (hp : p = -4 ∨ ∃ q, q < 5 ∧ p = nI q) (hK : ∀ r S', FZ S S' → KL r S') : wp_X7_byFails (nI v) p y S KL :=
  z_bf_6 hG hw hv hp hK (aC (qA G)) 0 2000 0 (by omega) (by have := hw.1.2.2.2.2.2.2.2.2.1; omega)
theorem z_luck {x y w : Int32} (hG : RZ S G) (hw : wfQ G) (hK : ∀ r S', RZ S' G → Fr 28 S S' → KL r S') : wp_X7_luck x y w S KL := by
  have hn := hw.1.1
  have hS := fun r => hK r S hG Fr.rf
  unfold wp_X7_luck
  refine m_in 0 10 (by decide) (by decide) (by decide) (fun v _ hv e => ⟨fun z => absurd z (by decide), fun _ => ?_⟩) (fun h => ⟨fun _ => hS _, fun z => absurd rfl z⟩)
  subst e
  refine m_isOne hG.1.1 hn (fun p hp e => ⟨fun z => absurd z (by decide), fun _ => ?_⟩) (fun hno => ⟨fun _ => hS _, fun z => absurd rfl z⟩)
  refine m_in 0 1 (by decide) (by decide) (by decide) (fun k _ hk e2 => ⟨fun z => absurd z (by decide), fun _ => ?_⟩) (fun h => ⟨fun _ => hS _, fun z => absurd rfl z⟩)
  exact z_byFails hG hw hv (Or.inr ⟨p, by omega, e⟩) (fun r S' f => hK r S' (hG.fz hw f) f.1)
theorem z_mean {x y : Int32} (hG : RZ S G) (hw : wfQ G) (hK : ∀ r S', RZ S' G → Fr 28 S S' → KL r S') : wp_X7_mean x y S KL := by
  have hS := fun r => hK r S hG Fr.rf
  unfold wp_X7_mean
  refine m_in 0 10 (by decide) (by decide) (by decide) (fun v _ hv e => ⟨fun z => absurd z (by decide), fun _ => ?_⟩) (fun h => ⟨fun _ => hS _, fun z => absurd rfl z⟩)
  subst e
  refine m_in 0 1 (by decide) (by decide) (by decide) (fun k _ hk e2 => ⟨fun z => absurd z (by decide), fun _ => ?_⟩) (fun h => ⟨fun _ => hS _, fun z => absurd rfl z⟩)
  exact z_byFails hG hw hv (Or.inl rfl) (fun r S' f => hK r S' (hG.fz hw f) f.1)
-- READ
theorem RZ.torn {S' : tq_St} (h : RZ S G) {y : Nat} (e : S' = sI S 28 28 (nI y)) : RZ S' (vO G y) := by
  subst e
  obtain ⟨h1, h2, h3, h4, h5, h6, h7, h8, h9⟩ := h
  refine ⟨h1.i (by decide) _, fun k hk => ?_, ⟨by rw [sI_1, if_neg (by decide)]; exact h3.1, h3.2⟩, by rw [sI_1, if_neg (by decide)]; exact h4, ⟨by rw [sI_1, if_neg (by decide)]; exact h5.1, h5.2⟩, h6, by rw [sI_1, if_pos rfl], h8, h9⟩
  have h2 := h2 k hk
  show ZI (sI S 28 28 (nI y)) k (qI G k)
  unfold ZI at h2 ⊢
  split at h2
  · exact h2
  · exact ⟨h2.1, h2.2.i (by decide) _⟩
theorem z_does {x : Int32} (hG : RZ S G) (hw : wfQ G) (h1 : ∀ a S', okA (aN (qA G)) a → x = nI a → plD (qA G) a = true → RZ S' (vA G (playF (qA G) a)) → FM 0 S S' → K 1 S') (h0 : (∀ a, okA (aN (qA G)) a → x = nI a → plD (qA G) a = false) → K 0 S) : wp_X7_does x S K := by
  have hn := hw.1.1
  unfold wp_X7_does
  refine m_isAct hG.1.1 hn (fun a ha e => ⟨fun z => absurd z (by decide), fun _ => ?_⟩) (fun hno => ⟨fun _ => h0 (fun a ha e => absurd e (hno a ha)), fun z => absurd rfl z⟩)
  subst e
  have ha' := ha
  unfold okA at ha'
  have h24 : plD (qA G) a = true → wp_X7_does_24 K (nI a) S := by
    intro hd
    have h1' := fun S' => h1 a S' ha rfl hd
    unfold wp_X7_does_24
    have e5 : (5 : Int32) = nI 5 := rfl
    have e6 : (6 : Int32) = nI 6 := rfl
    rw [e5, e6, nI_eq (by omega) (by decide), nI_eq (by omega) (by decide)]
    unfold playF at h1'
    unfold plD at hd
    refine ⟨fun n5 => ⟨fun n6 => ?_, fun n6 => ?_⟩, fun n5 => ?_⟩
    · rw [if_neg n5, if_neg n6] at h1' hd
      have hb : (aG (qA G)).testBit a = false := by simpa using hd
      rw [if_neg (by rw [hb]; decide)] at h1'
      exact m_thinksOn (g := 0) hG.1 hw.1 (by decide) (by omega) (fun S' a1 a2 => h1' S' (hG.now hw a2 a1) a2)
    · rw [if_neg n5, if_pos n6] at h1'
      exact m_tramOn (g := 0) hG.1 hw.1 (by decide) (fun S' a1 a2 => h1' S' (hG.now hw a2 a1) a2)
    · rw [if_pos n5] at h1'
      exact m_minuteOn (g := 0) hG.1 hw.1 (by decide) (fun S' a1 a2 => h1' S' (hG.now hw a2 a1) a2)
  refine pk_le 5 a (fun z => h24 ?_) (fun z => ?_)
  · unfold plD
    rcases (by omega : a = 5 ∨ a = 6) with c | c
    · rw [if_pos c]
    · rw [if_neg (by omega), if_pos c]
  · refine m_waits (g := 0) hG.1.2.2.2.2.1 (by decide) hw.1.g31 (by omega) (fun hb => ⟨fun _ => h24 ?_, fun z => absurd z (by decide)⟩) (fun hb => ⟨fun z => absurd rfl z, fun _ => h0 (fun a' ha2 e => ?_)⟩)
    · unfold plD
      rw [if_neg (by omega), if_neg (by omega), hb]; rfl
    · have : a' < 2 ^ 31 := by unfold okA at ha2; omega
      have := (nI_eq (by omega) this).mp e
      subst this
      unfold plD
      rw [if_neg (by omega), if_neg (by omega), hb]; rfl
theorem z_read_55 {G0 : aQ} {k l n : Nat} {x : Int32} {S0 : tq_St} (hw0 : wfQ G0) (hk : k ≤ 3) (hl : l ≤ 2) (hn : n ≤ 20) (hK : ∀ r S' A y, wfE A → aN A = aN (qA G0) → y ≤ 3 → RZ S' (vO (vA G0 A) y) → Fr 28 S0 S' → K r S') : ∀ (m i f c : Nat) (y : Nat) (A : aE) (S : tq_St), i + m = n → m < f → y ≤ 3 → (y = 0 → c = i) → wfE A → aN A = aN (qA G0) → RZ S (vA G0 A) → RM S 84 (qA G0) → Fr 28 S0 S → wp_X7_read_55 K f (nI k) (nI l) x (nI n) (nI y) (nI c) (nI i) S
  | 0, i, f + 1, c, y, A, S, h1, h2, hy, hcy, hwA, hA, hG, hR, hF => by
    unfold wp_X7_read_55
    exact pk_le n i (fun _ => nm_e (hK _ _ A y hwA hA hy (hG.torn rfl) (hF.tr (Fr.rf.I _ _)))) (fun z => absurd z (by omega))
  | m + 1, i, f + 1, c, y, A, S, h1, h2, hy, hcy, hwA, hA, hG, hR, hF => by
    have hwG : wfQ (vA G0 A) := hw0.now hwA hA
    have hfin : ∀ y', y' ≤ 3 → ∀ c' : Int32, ∀ S', S' = sI S 28 28 (nI y') → K c' S' := fun y' hy' c' S' e => by
      subst e
      exact hK _ _ A y' hwA hA hy' (hG.torn rfl) (hF.tr (Fr.rf.I _ _))
    unfold wp_X7_read_55
    refine pk_le n i (fun z => absurd z (by omega)) (fun _ => ⟨fun _ => fun S' e => hfin y hy _ S' e, fun z => ?_⟩)
    have hy0 : y = 0 := (nI_eq (by omega) (by decide)).mp z
    have hci := hcy hy0
    subst hci
    have v4 : vp_in (nI k) 4 := vp_in_nI (by omega) (by decide)
    rw [nI_clamp (n := k) (by omega)]
    have hZ := hG.2.2.2.2.2.1 k (by omega)
    have hl40 := hw0.2.2.2.2.2.2.1 k
    -- the machine finds a fault
    have hbad : ∀ y', 0 < y' → y' ≤ 3 → wp_X7_read_123 K (wp_X7_read_55 K f) (nI k) (nI l) x (nI n) (nI c) (nI c) (nI y') S := by
      intro y' h0 h3
      unfold wp_X7_read_123
      refine ⟨fun _ => nm_r (nI_1 c) ?_, fun z => absurd z (nI_ne0 h0 (by omega))⟩
      exact z_read_55 hw0 hk hl hn hK m (c + 1) f c y' A S (by omega) (by omega) h3 (by omega) hwA hA hG hR hF
    refine ⟨v4, ?_⟩
    have hZ : ZH S k (qH G0 k) := hZ
    unfold ZH at hZ
    cases e : (qH G0 k).1 with
    | none =>
      rw [e] at hZ
      rw [hZ]
      exact ⟨fun z => absurd rfl z, fun _ => hbad 1 (by omega) (by omega)⟩
    | some l' =>
      rw [e] at hZ
      obtain ⟨c1, c2, c3⟩ := hZ
      have hl' := hw0.2.2.2.2.2.1 k l' e
      rw [c1, c2]
      refine ⟨fun _ => ⟨v4, fun _ => ⟨v4, ?_⟩, fun _ => hbad 3 (by omega) (by omega)⟩, fun z => absurd z (oI_ne (by omega))⟩
      have esum : (x.toInt64 + (nI c).toInt64).toInt = x.toInt + c := by
        have hx := fb_rng x
        have ec : (nI c).toInt64.toInt = (c : Int) := by rw [Int32.toInt_toInt64, nI_toInt (by omega)]
        have ex : x.toInt64.toInt = x.toInt := Int32.toInt_toInt64 x
        rw [fb_addL (by rw [ex, ec]; omega) (by rw [ex, ec]; omega), ex, ec]
      have ehi : (nI (qH G0 k).2.1 - 1).toInt64.toInt = ((qH G0 k).2.1 : Int) - 1 := by
        rw [Int32.toInt_toInt64]
        exact pk_sub_toInt (a := (qH G0 k).2.1) (b := 1) (by omega) (by omega)
      have e0 : (0 : Int64).toInt = 0 := by decide
      refine m_inL (fun z1 z2 => ⟨fun _ => ?_, fun z => absurd z (by decide)⟩) (fun _ => ⟨fun z => absurd rfl z, fun _ => hbad 2 (by omega) (by omega)⟩)
      rw [esum, e0] at z1
      rw [esum, ehi] at z2
      -- the cell
      obtain ⟨j, hj⟩ : ∃ j : Nat, (j : Int) = x.toInt + c := ⟨(x.toInt + c).toNat, by omega⟩
      have exc : (40 : Int32) * nI k + x + nI c = nI (40 * k + j) := by
        have e40 : (40 : Int32) * nI k = nI (40 * k) := pk_mul 40 k
        rw [e40]
        apply Int32.toInt_inj.mp
        have t1 : (nI (40 * k)).toInt = ((40 * k : Nat) : Int) := nI_toInt (by omega)
        have t2 : (nI c).toInt = (c : Int) := nI_toInt (by omega)
        have t3 : (nI (40 * k + j)).toInt = ((40 * k + j : Nat) : Int) := nI_toInt (by omega)
        have s1 : (nI (40 * k) + x).toInt = (nI (40 * k)).toInt + x.toInt := fb_addI (by omega) (by omega)
        rw [fb_addI (by omega) (by omega), s1, t1, t2, t3]
        omega
      unfold wp_X7_read_123
      rw [exc, nI_clamp (n := 40 * k + j) (by omega), c3 j (by omega)]
      refine ⟨fun z => absurd rfl z, fun _ => ⟨vp_in_nI (by omega) (by decide), ?_⟩⟩
      refine z_does hG hwG (fun a S' ha ea hd hR' hF' => ⟨fun _ => nm_r (nI_1 c) (nm_r (nI_1 c) ?_), fun z => absurd z (by decide)⟩) (fun hno => ⟨fun z => absurd rfl z, fun _ => ?_⟩)
      · have hR84 : RM S' 84 (qA G0) := hR.fm hF' hw0.1.1 hw0.1.2.2.2.2.2.2.2.2.1 (by omega)
        exact z_read_55 hw0 hk hl hn hK m (c + 1) f (c + 1) 0 _ S' (by omega) (by omega) (by omega) (fun _ => rfl) (playF_wf hwA a) ((playF_same A a).1.trans hA) hR' hR84 (hF.tr hF'.fr)
      · refine m_copies (a := 84) (b := 0) (by decide) (by decide) (by omega) hR hw0.1.1 hw0.1.2.2.2.2.2.2.2.2.1 (fun S' f' r' => ?_)
        exact hK _ S' (qA G0) (qO G0) hw0.1 rfl hw0.2.2.2.2.2.2.2 (hG.now hwG f' r') (hF.tr f'.fr)
theorem z_read {x y z w : Int32} (hG : RZ S G) (hw : wfQ G) (hK : ∀ r S' A y, wfE A → aN A = aN (qA G) → y ≤ 3 → RZ S' (vO (vA G A) y) → Fr 28 S S' → K r S') : wp_X7_read x y z w S K := by
  have hS := fun r => hK r S (qA G) (qO G) hw.1 rfl hw.2.2.2.2.2.2.2 hG Fr.rf
  unfold wp_X7_read
  refine m_in 0 3 (by decide) (by decide) (by decide) (fun k _ hk e => ⟨fun z => absurd z (by decide), fun _ => ?_⟩) (fun h => ⟨fun _ => hS _, fun z => absurd rfl z⟩)
  subst e
  refine m_in 0 2 (by decide) (by decide) (by decide) (fun l _ hl e => ⟨fun z => absurd z (by decide), fun _ => ?_⟩) (fun h => ⟨fun _ => hS _, fun z => absurd rfl z⟩)
  subst e
  refine m_in 0 20 (by decide) (by decide) (by decide) (fun n _ hn e => ⟨fun _ => ?_, fun z => absurd z (by decide)⟩) (fun h => ⟨fun z => absurd rfl z, fun _ => hS _⟩)
  subst e
  refine m_copies (a := 0) (b := 84) (by decide) (by decide) (by omega) hG.1 hw.1.1 hw.1.2.2.2.2.2.2.2.2.1 (fun S1 f1 r1 => ?_)
  exact z_read_55 (G0 := G) (S0 := S) hw hk hl hn hK n 0 2000 0 0 (qA G) S1 (by omega) (by omega) (by omega) (fun _ => rfl) hw.1 rfl (hG.fz hw (f1.fz (by decide))) r1 f1.fr
end Z8
end
