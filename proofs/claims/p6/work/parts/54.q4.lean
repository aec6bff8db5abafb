section Q4
variable {S : tq_St} {G : aQ} {K : Int32 → tq_St → Prop}
-- WHAT WAS SEEN
theorem RQ.seen {S' : tq_St} (hG : RQ S G) (f : Fr 20 S S') {s : Nat × (Nat → Nat) × (Nat → Bool)} (hs : S'.1 20 2 = nI s.1 ∧ ∀ i, i < s.1 → S'.2.1 20 0 i = nI (s.2.1 i) ∧ S'.2.1 20 1 i = bI (s.2.2 i)) : RQ S' (vS G s) := by
  obtain ⟨h1, h2, h3, h4, h5, h6, h7⟩ := hG
  have f19 := f.1 19 (by decide)
  have f27 := f.1 27 (by decide)
  refine ⟨h1.fr f (by decide), fun k hk => ?_, by rw [f19.1, f19.2]; exact h3, by rw [f19.1]; exact h4, hs, fun k hk => ?_, by rw [f27.1]; exact h7⟩
  · have h2 := h2 k hk
    show CI _ k (qI G k)
    unfold CI at h2 ⊢
    split at h2
    · rw [f27.2]; exact h2
    · rw [f27.2]; exact ⟨h2.1, h2.2.fr f (by omega)⟩
  · have h6 := h6 k hk
    have f23 := f.1 (23 + k) (by omega)
    show CH _ k (qH G k)
    unfold CH at h6 ⊢
    rw [f23.1, f23.2]
    exact h6
def seeF (G : aQ) (p : Nat) (b : Bool) : aQ := vS G ((qS G).1 + 1, un (qS G).2.1 (qS G).1 p, un (qS G).2.2 (qS G).1 b)
theorem seeF_wf (hw : wfQ G) (hs : (qS G).1 < 6) {p : Nat} (hp : p < 5) (b : Bool) : wfQ (seeF G p b) := by
  refine ⟨hw.1, hw.2.1, hw.2.2.1, hw.2.2.2.1, ⟨by show (qS G).1 + 1 ≤ 6; omega, fun i => ?_⟩, hw.2.2.2.2.2⟩
  show un (qS G).2.1 (qS G).1 p i < 5
  have := hw.2.2.2.2.1.2 i
  unfold un
  split <;> omega
theorem q_see {x : Int32} {b : Bool} (hG : RQ S G) (hw : wfQ G) (hbad : (∀ p, p < aN (qA G) → x ≠ nI p) → K (-1) S) (hfull : ∀ p, p < aN (qA G) → x = nI p → (qS G).1 = 6 → K (-3) S) (hok : ∀ p, p < aN (qA G) → x = nI p → (qS G).1 < 6 → ∀ S', RQ S' (seeF G p b) → FC S S' → K (nI ((qS G).1 + 1)) S') : wp_X6_see x (bI b) S K := by
  have hn := hw.1.1
  have hs := hw.2.2.2.2.1.1
  have h5 := hG.2.2.2.2.1
  unfold wp_X6_see
  refine c_isThere hG.1.1 hn (fun p hp e => ⟨fun _ => ?_, fun z => absurd z (by decide)⟩) (fun hno => ⟨fun z => absurd rfl z, fun _ => hbad hno⟩)
  subst e
  unfold wp_X4_add
  rw [h5.1]
  refine pk_lt (qS G).1 6 (fun hlt => ⟨vp_in_nI (by omega) (by decide), nm_e ?_⟩) (fun hge => ⟨fun _ => hfull p hp rfl (by omega), fun z => absurd rfl z⟩)
  rw [sA_1, h5.1]
  refine ⟨vp_in_nI (by omega) (by decide), nm_e ?_⟩
  rw [sA_1, sA_1, h5.1]
  refine nm_r (by rw [nI_1]) ⟨fun z => absurd z (by decide), fun _ => ?_⟩
  rw [nI_clamp (by omega)]
  have eb : vp_nar .boolean (bI b) = bI b := by cases b <;> decide +kernel
  rw [eb]
  have f := (((Fr.rf (o := 20) (S := S)).A 0 (qS G).1 (nI p)).A 1 (qS G).1 (bI b)).I 2 (nI ((qS G).1 + 1))
  have e1 : (sI (sA (sA S 20 0 (qS G).1 (nI p)) 20 1 (qS G).1 (bI b)) 20 2 (nI ((qS G).1 + 1))).1 20 2 = nI ((qS G).1 + 1) := by rw [sI_1, if_pos rfl]
  rw [e1]
  refine hok p hp rfl hlt _ (hG.seen f ⟨e1, fun i hi => ⟨?_, ?_⟩⟩) (f.fc (by decide))
  · show (sA (sA S 20 0 (qS G).1 (nI p)) 20 1 (qS G).1 (bI b)).2.1 20 0 i = nI (un (qS G).2.1 (qS G).1 p i)
    have hi : i < (qS G).1 + 1 := hi
    rw [sA_nk _ _ _ _ _ (by decide), sA_at]
    by_cases e : i = (qS G).1
    · subst e; rw [if_pos rfl, un_s]
    · rw [if_neg e, un_n _ _ e]; exact (h5.2 i (by omega)).1
  · show (sA (sA S 20 0 (qS G).1 (nI p)) 20 1 (qS G).1 (bI b)).2.1 20 1 i = bI (un (qS G).2.2 (qS G).1 b i)
    have hi : i < (qS G).1 + 1 := hi
    rw [sA_at, sA_nk _ _ _ _ _ (by decide)]
    by_cases e : i = (qS G).1
    · subst e; rw [if_pos rfl, un_s]
    · rw [if_neg e, un_n _ _ e]; exact (h5.2 i (by omega)).2
def forgetF (G : aQ) (n : Nat) : aQ := vS G (n, (qS G).2)
theorem q_forget {x : Int32} (hG : RQ S G) (hw : wfQ G) (hbad : (∀ n, n ≤ (qS G).1 → x ≠ nI n) → K (-1) S) (hok : ∀ n, n ≤ (qS G).1 → x = nI n → ∀ S', RQ S' (forgetF G n) → FC S S' → K (nI (qS G).1) S') : wp_X6_forget x S K := by
  have hs := hw.2.2.2.2.1.1
  have h5 := hG.2.2.2.2.1
  unfold wp_X6_forget
  rw [h5.1]
  rcases ix_le x (qS G).1 (by omega) with ⟨n, hn, rfl⟩ | hb
  · refine ⟨fun z => absurd z (nI_pos (by omega)), fun _ => pk_le n (qS G).1 (fun _ => nm_e (nm_e ?_)) (fun z => absurd z (by omega))⟩
    have f := (Fr.rf (o := 20) (S := S)).I 2 (nI n)
    exact hok n hn rfl _ (hG.seen f ⟨by rw [sI_1, if_pos rfl], fun i hi => h5.2 i (by have hi : i < n := hi; omega)⟩) (f.fc (by decide))
  · rcases ix_bad (by omega) hb with z | z
    · exact ⟨fun _ => hbad hb, fun z2 => absurd z z2⟩
    · exact ⟨fun _ => hbad hb, fun _ => ⟨fun z2 => absurd z2 z, fun _ => hbad hb⟩⟩
/-- all is as seen, if those are gone -/
def agr (s : Nat × (Nat → Nat) × (Nat → Bool)) (g : Nat) : Prop := ∀ i, i < s.1 → g.testBit (s.2.1 i) = s.2.2 i
theorem q_agree_2 {g : Nat} (hs6 : (qS G).1 ≤ 6) (hs5 : ∀ i, (qS G).2.1 i < 5) (h5 : S.1 20 2 = nI (qS G).1 ∧ ∀ i, i < (qS G).1 → S.2.1 20 0 i = nI ((qS G).2.1 i) ∧ S.2.1 20 1 i = bI ((qS G).2.2 i)) (hg : g < 2 ^ 31) (h1 : agr (qS G) g → K 1 S) (h0 : ¬ agr (qS G) g → K 0 S) : ∀ (m i f : Nat), i + m = (qS G).1 → m < f → (∀ j, j < i → g.testBit ((qS G).2.1 j) = (qS G).2.2 j) → wp_X4_agreeWith_2 K f (nI g) (nI i) S
  | 0, i, f + 1, h2, h3, h4 => by
    unfold wp_X4_agreeWith_2
    rw [h5.1]
    exact pk_le (qS G).1 i (fun _ => h1 (fun j hj => h4 j (by omega))) (fun z => absurd z (by omega))
  | m + 1, i, f + 1, h2, h3, h4 => by
    have hp := hs5 i
    unfold wp_X4_agreeWith_2
    rw [h5.1]
    refine pk_le (qS G).1 i (fun z => absurd z (by omega)) (fun hi => ⟨vp_in_nI (by omega) (by decide), ?_⟩)
    rw [nI_clamp (by omega), (h5.2 i hi).1, zb_1 hg (by omega)]
    have h29 : ∀ b : Bool, g.testBit ((qS G).2.1 i) = b → wp_X4_agreeWith_29 K (wp_X4_agreeWith_2 K f) (nI g) (nI i) (bI b) S := by
      intro b hb
      unfold wp_X4_agreeWith_29
      rw [nI_clamp (by omega), (h5.2 i hi).2]
      refine ⟨vp_in_nI (by omega) (by decide), fun z => nm_r (nI_1 i) ?_, fun z => h0 (fun ha => z ?_)⟩
      · refine q_agree_2 hs6 hs5 h5 hg h1 h0 m (i + 1) f (by omega) (by omega) (fun j hj => ?_)
        by_cases e : j = i
        · subst e
          rw [hb]
          cases b <;> cases hc : (qS G).2.2 j <;> rw [hc] at z <;> first | rfl | exact absurd z (by decide)
        · exact h4 j (by omega)
      · rw [← ha i hi, hb]
    refine ⟨fun z => ?_, fun z => h29 true z⟩
    have hz : g.testBit ((qS G).2.1 i) = false := by
      cases h : g.testBit ((qS G).2.1 i)
      · rfl
      · exact absurd h z
    exact h29 false hz
theorem q_agree {g : Nat} (hG : RQ S G) (hw : wfQ G) (hg : g < 2 ^ 31) (h1 : agr (qS G) g → K 1 S) (h0 : ¬ agr (qS G) g → K 0 S) : wp_X4_agreeWith (nI g) S K :=
  q_agree_2 hw.2.2.2.2.1.1 hw.2.2.2.2.1.2 hG.2.2.2.2.1 hg h1 h0 (qS G).1 0 2000 (by omega) (by have := hw.2.2.2.2.1.1; omega) (fun j hj => by omega)
theorem wfE.gl {A : aE} (hw : wfE A) : aG A < 32 := by
  have h1 := zb_p31 hw.1
  have h2 := hw.2.2.2.2.1
  omega
-- KINDS THAT MAY BE: the bits so far
def agrB (s : Nat × (Nat → Nat) × (Nat → Bool)) (g : Nat) : Bool := decide (∀ i, i < s.1 → g.testBit (s.2.1 i) = s.2.2 i)
theorem q_agreeB {g : Nat} (hG : RQ S G) (hw : wfQ G) (hg : g < 2 ^ 31) (hK : K (bI (agrB (qS G) g)) S) : wp_X4_agreeWith (nI g) S K := by
  refine q_agree hG hw hg (fun h => ?_) (fun h => ?_)
  · have e : agrB (qS G) g = true := decide_eq_true h
    rw [e] at hK; exact hK
  · have e : agrB (qS G) g = false := decide_eq_false h
    rw [e] at hK; exact hK
def kinB (G : aQ) (p : Nat) : Nat → Nat
  | 0 => 0
  | k + 1 => if agrB (qS G) (aG (planR (alterK (qA G) p k)).1) then kinB G p k ||| 2 ^ k else kinB G p k
theorem kinB_lt (G : aQ) (p : Nat) : ∀ k, kinB G p k < 2 ^ k
  | 0 => Nat.zero_lt_one
  | k + 1 => by
    have h := kinB_lt G p k
    have h2 : 2 ^ k < 2 ^ (k + 1) := Nat.pow_lt_pow_right (by decide) (by omega)
    unfold kinB
    split
    · exact zb_orlt (by omega) (by omega)
    · omega
theorem q_kinds_17 {S0 : tq_St} {p : Nat} (hG0 : RQ S0 G) (hw : wfQ G) (hp : p < aN (qA G)) (hK : ∀ S', Fr 1 S0 S' → K (nI (kinB G p 4)) S') : ∀ (m k f : Nat) (S : tq_St), k + m = 4 → m < f → Fr 1 S0 S → wp_X6_kinds_17 K f (nI p) (nI (kinB G p k)) (nI k) S
  | 0, k, f + 1, S, h1, h2, hF => by
    have e : k = 4 := by omega
    subst e
    exact pk_le 4 4 (fun _ => hK S hF) (fun z => absurd z (by omega))
  | m + 1, k, f + 1, S, h1, h2, hF => by
    have hn := hw.1.1
    unfold wp_X6_kinds_17
    refine pk_le 4 k (fun z => absurd z (by omega)) (fun _ => ?_)
    have hR : RC S 0 (qA G) := hG0.1.fr hF (by decide)
    refine c_startFrom hR hw.1 (by decide) (fun S1 a1 a2 a3 => ⟨vp_in_nI (by omega) (by decide), nm_e ?_⟩)
    rw [nI_clamp (by omega)]
    have hw2 := alterK_wf hw.1 (p := p) (v := k) (by omega)
    have a1k : RC (sA S1 1 0 p (nI k)) 1 (alterK (qA G) p k) := a1.k p k
    refine c_follow a1k hw2 a3 (fun S2 b1 b2 b3 => ?_)
    have hF2 := ((hF.tr a2).tr (Fr.rf.A _ _ _)).tr b3
    have hx := hF2.fx (Or.inl (by decide))
    have hgl := (planR_ok hw2).1.gl
    rw [b1.2.1]
    refine q_agreeB (hG0.fx hx) hw (by exact Nat.lt_of_lt_of_le hgl (by decide)) ?_
    have ih := q_kinds_17 hG0 hw hp hK m (k + 1) f S2 (by omega) (by omega) hF2
    unfold kinB at ih
    cases hc : agrB (qS G) (aG (planR (alterK (qA G) p k)).1)
    · refine ⟨fun _ => nm_r (nI_1 k) ?_, fun z => absurd rfl z⟩
      rw [hc] at ih; exact ih
    · refine ⟨fun z => absurd z (by decide), fun _ => nm_r (zb_or (by omega)) (nm_r (nI_1 k) ?_)⟩
      rw [hc] at ih; exact ih
theorem q_kinds {x : Int32} (hG : RQ S G) (hw : wfQ G) (hbad : (∀ p, p < aN (qA G) → x ≠ nI p) → K (-1) S) (hok : ∀ p, p < aN (qA G) → x = nI p → ∀ S', RQ S' G → FC S S' → K (nI (kinB G p 4)) S') : wp_X6_kinds x S K := by
  unfold wp_X6_kinds
  refine c_isThere hG.1.1 hw.1.1 (fun p hp e => ⟨fun _ => ?_, fun z => absurd z (by decide)⟩) (fun hno => ⟨fun z => absurd rfl z, fun _ => hbad hno⟩)
  subst e
  refine q_kinds_17 hG hw hp (fun S' f => ?_) 4 0 2000 S (by omega) (by omega) Fr.rf
  have hx := f.fx (Or.inl (by decide))
  exact hok p hp rfl S' (hG.fx hx) hx.fc
-- SORROWS THAT MAY BE
def ocF (A : aE) (p s : Nat) : Nat := aG (planR (alterS A p s)).1
def sorB (G : aQ) (p : Nat) : Nat → Nat
  | 0 => 0
  | k + 1 => if agrB (qS G) (ocF (qA G) p k) then sorB G p k ||| 2 ^ k else sorB G p k
theorem sorB_lt (G : aQ) (p : Nat) : ∀ k, sorB G p k < 2 ^ k
  | 0 => Nat.zero_lt_one
  | k + 1 => by
    have h := sorB_lt G p k
    have h2 : 2 ^ k < 2 ^ (k + 1) := Nat.pow_lt_pow_right (by decide) (by omega)
    unfold sorB
    split
    · exact zb_orlt (by omega) (by omega)
    · omega
theorem FX.A27 {S T : tq_St} (h : FX S T) (i : Nat) (v : Int32) : FX S (sA T 27 9 i v) :=
  h.tr ⟨fun o a b c d => ⟨rfl, sA_2n T d⟩, rfl, fun k hk => sA_nk T 27 9 i v hk⟩
theorem q_poss_4 {S0 : tq_St} {p : Nat} (hG0 : RQ S0 G) (hw : wfQ G) (hp : p < aN (qA G)) (hK : ∀ S', FX S0 S' → (∀ s, s < 21 → S'.2.1 27 9 s = nI (ocF (qA G) p s)) → K (nI (sorB G p 21)) S') : ∀ (m k f : Nat) (S : tq_St), k + m = 21 → m < f → FX S0 S → (∀ s, s < k → S.2.1 27 9 s = nI (ocF (qA G) p s)) → wp_X6_possibleSorrows_4 K f (nI p) (nI (sorB G p k)) (nI k) S
  | 0, k, f + 1, S, h1, h2, hF, hO => by
    have e : k = 21 := by omega
    subst e
    exact pk_lt 20 21 (fun _ => hK S hF hO) (fun z => absurd z (by omega))
  | m + 1, k, f + 1, S, h1, h2, hF, hO => by
    have hn := hw.1.1
    unfold wp_X6_possibleSorrows_4
    refine pk_lt 20 k (fun z => absurd z (by omega)) (fun _ => ?_)
    have hR : RC S 0 (qA G) := hG0.1.fx hF (Or.inl rfl)
    refine c_startFrom hR hw.1 (by decide) (fun S1 a1 a2 a3 => ⟨vp_in_nI (by omega) (by decide), nm_e ?_⟩)
    rw [nI_clamp (by omega)]
    have hw2 := alterS_wf hw.1 (p := p) (v := k) (by omega)
    refine c_follow (a1.s p k) hw2 a3 (fun S2 b1 b2 b3 => ⟨vp_in_nI (by omega) (by decide), nm_e ?_⟩)
    have hF1 := (a2.tr (Fr.rf.A _ _ _)).tr b3
    have hF2 := (hF.tr (hF1.fx (Or.inl (by decide)))).A27 k (S2.1 1 6)
    have hgl := (planR_ok hw2).1.gl
    have e6 : S2.1 1 6 = nI (ocF (qA G) p k) := b1.2.1
    rw [nI_clamp (by omega), sA_1, e6]
    rw [e6] at hF2
    refine q_agreeB (hG0.fx hF2) hw (by exact Nat.lt_of_lt_of_le hgl (by decide)) ?_
    have ih := q_poss_4 hG0 hw hp hK m (k + 1) f _ (by omega) (by omega) hF2 (fun s hs => by
      rw [sA_at]
      by_cases e : s = k
      · subst e; rw [if_pos rfl]
      · rw [if_neg e, (hF1.1 27 (by decide)).2]; exact hO s (by omega))
    unfold sorB at ih
    cases hc : agrB (qS G) (ocF (qA G) p k)
    · refine ⟨fun _ => nm_r (nI_1 k) ?_, fun z => absurd rfl z⟩
      rw [hc] at ih; exact ih
    · refine ⟨fun z => absurd z (by decide), fun _ => nm_r (zb_or (by omega)) (nm_r (nI_1 k) ?_)⟩
      rw [hc] at ih; exact ih
theorem q_poss {p : Nat} (hG : RQ S G) (hw : wfQ G) (hp : p < aN (qA G)) (hK : ∀ S', FX S S' → (∀ s, s < 21 → S'.2.1 27 9 s = nI (ocF (qA G) p s)) → K (nI (sorB G p 21)) S') : wp_X6_possibleSorrows (nI p) S K :=
  q_poss_4 hG hw hp hK 21 0 2000 S (by omega) (by omega) FX.rf (fun s hs => by omega)
theorem q_sorrows {x : Int32} (hG : RQ S G) (hw : wfQ G) (hbad : (∀ p, p < aN (qA G) → x ≠ nI p) → K (-1) S) (hok : ∀ p, p < aN (qA G) → x = nI p → ∀ S', RQ S' G → FC S S' → K (nI (sorB G p 21)) S') : wp_X6_sorrows x S K := by
  unfold wp_X6_sorrows
  refine c_isThere hG.1.1 hw.1.1 (fun p hp e => ⟨fun z => absurd z (by decide), fun _ => ?_⟩) (fun hno => ⟨fun _ => hbad hno, fun z => absurd rfl z⟩)
  subst e
  exact q_poss hG hw hp (fun S' f _ => hok p hp rfl S' (hG.fx f) f.fc)
-- WHOM TO ASK (any answer)
theorem q_worst_8 {v1 v2 : Int32} (hK : ∀ r, K r S) : ∀ (m k f : Nat) (v3 v4 : Int32), k + m = 21 → m < f → wp_X6_leftAtWorst_8 K f v1 v2 v3 v4 (nI k) S
  | 0, k, f + 1, v3, v4, h1, h2 => by
    have e : k = 21 := by omega
    subst e
    exact pk_lt 20 21 (fun _ => hK _) (fun z => absurd z (by omega))
  | m + 1, k, f + 1, v3, v4, h1, h2 => by
    unfold wp_X6_leftAtWorst_8
    refine pk_lt 20 k (fun z => absurd z (by omega)) (fun _ => ⟨fun _ => nm_r (nI_1 k) ?_, fun _ => ⟨vp_in_nI (by omega) (by decide), fun _ => nm_e (nm_r (nI_1 k) ?_), fun _ => nm_e (nm_r (nI_1 k) ?_)⟩⟩)
    · exact q_worst_8 hK m (k + 1) f _ _ (by omega) (by omega)
    · exact q_worst_8 hK m (k + 1) f _ _ (by omega) (by omega)
    · exact q_worst_8 hK m (k + 1) f _ _ (by omega) (by omega)
theorem q_ask_39 {v2 v3 : Int32} {n : Nat} (h5 : S.1 0 5 = nI n) (hn : n ≤ 5) (hK : ∀ r, K r S) : ∀ (m q f : Nat) (v4 v5 : Int32), q + m = n → m < f → wp_X6_ask_39 K f v2 v3 v4 v5 (nI q) S
  | 0, q, f + 1, v4, v5, h1, h2 => by
    unfold wp_X6_ask_39
    rw [h5]
    exact pk_le n q (fun _ => ⟨fun _ => hK _, fun _ => ⟨fun _ => hK _, fun _ => hK _⟩⟩) (fun z => absurd z (by omega))
  | m + 1, q, f + 1, v4, v5, h1, h2 => by
    unfold wp_X6_ask_39
    rw [h5]
    refine pk_le n q (fun z => absurd z (by omega)) (fun _ => ?_)
    refine q_worst_8 (fun r => ⟨fun _ => nm_r (nI_1 q) ?_, fun _ => nm_r (nI_1 q) ?_⟩) 21 0 2000 _ _ (by omega) (by omega)
    · exact q_ask_39 h5 hn hK m (q + 1) f _ _ (by omega) (by omega)
    · exact q_ask_39 h5 hn hK m (q + 1) f _ _ (by omega) (by omega)
theorem q_ask {x y : Int32} (hG : RQ S G) (hw : wfQ G) (hK : ∀ r S', RQ S' G → FC S S' → K r S') : wp_X6_ask x y S K := by
  unfold wp_X6_ask
  refine c_isThere hG.1.1 hw.1.1 (fun p hp e => ⟨fun z => absurd z (by decide), fun _ => ?_⟩) (fun hno => ⟨fun _ => hK _ S hG FC.rf, fun z => absurd rfl z⟩)
  subst e
  refine q_01 (fun w hw1 e => ⟨fun _ => ?_, fun z => absurd z (by decide)⟩) (fun hno => ⟨fun z => absurd rfl z, fun _ => hK _ S hG FC.rf⟩)
  refine q_poss hG hw hp (fun S' f _ => ?_)
  have hG' := hG.fx f
  unfold wp_J6_bitCount_0f7a4
  refine nm_e (nm_e (nm_e (nm_e (nm_e ?_))))
  exact q_ask_39 hG'.1.1 hw.1.1 (fun r => hK r S' hG' f.fc) (aN (qA G)) 0 2000 _ _ (by omega) (by have := hw.1.1; omega)
end Q4
