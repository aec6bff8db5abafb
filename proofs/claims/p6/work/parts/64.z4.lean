section Z4
variable {S : tq_St} {G : aQ} {K : Int32 → tq_St → Prop}
-- AS SEEN
def agP (s : Nat × (Nat → Nat) × (Nat → Bool)) (g k : Nat) : Bool := decide (∀ i, i < k → g.testBit (s.2.1 i) = s.2.2 i)
theorem agP_s (s : Nat × (Nat → Nat) × (Nat → Bool)) (g k : Nat) : agP s g (k + 1) = (agP s g k && decide (g.testBit (s.2.1 k) = s.2.2 k)) := by
  unfold agP
  rw [Bool.eq_iff_iff, Bool.and_eq_true, decide_eq_true_eq, decide_eq_true_eq, decide_eq_true_eq]
  constructor
  · intro h
    exact ⟨fun i hi => h i (by omega), h k (by omega)⟩
  · intro h i hi
    by_cases e : i = k
    · rw [e]; exact h.2
    · exact h.1 i (by omega)
def ZS (S : tq_St) (s : Nat × (Nat → Nat) × (Nat → Bool)) : Prop := S.1 28 22 = nI s.1 ∧ ∀ i, i < s.1 → S.2.1 28 21 (2 * i) = nI (s.2.1 i) ∧ S.2.1 28 21 (2 * i + 1) = bI (s.2.2 i)
theorem z_seen_10 {s : Nat × (Nat → Nat) × (Nat → Bool)} {g : Nat} (h6 : s.1 ≤ 6) (h5 : ∀ i, s.2.1 i < 5) (hS : ZS S s) (hg : g < 2 ^ 31) (hq : pg S 127 = nI g) (hK : K (bI (agP s g s.1)) S) : ∀ (m k f : Nat), k + m = s.1 → m < f → wp_X7_isAsSeen_10 K f (bI (agP s g k)) (nI k) S
  | 0, k, f + 1, h1, h2 => by
    unfold wp_X7_isAsSeen_10
    rw [hS.1]
    refine pk_le s.1 k (fun _ => ⟨?_, ?_⟩) (fun z => absurd z (by omega))
    · cases agP s g k
      · exact Or.inl rfl
      · exact Or.inr rfl
    · rw [show k = s.1 by omega]
      exact hK
  | m + 1, k, f + 1, h1, h2 => by
    have ih := z_seen_10 h6 h5 hS hg hq hK m (k + 1) f (by omega) (by omega)
    rw [agP_s] at ih
    unfold wp_X7_isAsSeen_10
    rw [hS.1]
    refine pk_le s.1 k (fun z => absurd z (by omega)) (fun hk => ?_)
    have h57 : (agP s g k && decide (g.testBit (s.2.1 k) = s.2.2 k)) = false → wp_X7_isAsSeen_57 K (wp_X7_isAsSeen_10 K f) (nI k) S := by
      intro e
      unfold wp_X7_isAsSeen_57
      rw [e] at ih
      exact nm_r (nI_1 k) ih
    cases ha : agP s g k
    · exact ⟨fun _ => h57 (by rw [ha]; rfl), fun z => absurd rfl z⟩
    · refine ⟨fun z => absurd z (by decide), fun _ => ?_⟩
      have e2 : (2 : Int32) * nI k = nI (2 * k) := pk_mul 2 k
      rw [e2, nI_1, nI_clamp (n := 2 * k) (by omega), nI_clamp (n := 2 * k + 1) (by omega), (hS.2 k hk).1, (hS.2 k hk).2]
      have hq' : S.2.1 28 0 (127 : Int32).toNatClampNeg = nI g := hq
      have hp := h5 k
      rw [hq', zb_val hg (by omega)]
      refine ⟨vp_in_nI (n := 127) (by decide) (by decide), vp_in_nI (by omega) (by decide), vp_in_nI (by omega) (by decide), fun z => h57 ?_, fun z => nm_r (nI_1 k) ?_⟩
      · rw [ha, Bool.true_and, decide_eq_false_iff_not]
        intro c
        apply z
        rw [c]
        cases s.2.2 k <;> rfl
      · have c : g.testBit (s.2.1 k) = s.2.2 k := by
          cases ht : g.testBit (s.2.1 k) <;> cases hb : s.2.2 k <;> rw [ht, hb] at z <;> first | rfl | exact absurd z (by decide)
        rw [ha, Bool.true_and, decide_eq_true c] at ih
        exact ih
theorem z_isAsSeen {s : Nat × (Nat → Nat) × (Nat → Bool)} {A : aE} (h6 : s.1 ≤ 6) (h5 : ∀ i, s.2.1 i < 5) (hS : ZS S s) (hR : RM S 0 A) (hw : wfE A) (hK : ∀ S', RM S' 112 (planR A).1 → FT S S' → K (bI (agrB s (aG (planR A).1))) S') : wp_X7_isAsSeen S K := by
  unfold wp_X7_isAsSeen
  refine z_plan0 (g := 0) hR hw (by omega) (fun S1 a1 a2 a3 => ?_)
  have hS1 : ZS S1 s := by
    unfold ZS
    rw [a3.2.1 22 (by decide) (by decide) (by decide), a3.2.2.1 21 (by decide)]
    exact hS
  have hgl := (planR_ok hw).1.gl
  have e0 : (1 : Int32) = bI (agP s (aG (planR A).1) 0) := by
    have : agP s (aG (planR A).1) 0 = true := decide_eq_true (fun i hi => by omega)
    rw [this]; rfl
  rw [e0]
  exact z_seen_10 h6 h5 hS1 (by omega) a1.2.2.2.2.1 (hK S1 a1 a3) s.1 0 2000 (by omega) (by omega)
/-- all but one place of now is as it was, what is made anew apart -/
def FY (q : Nat) (S S' : tq_St) : Prop := Fr 28 S S' ∧ (∀ k, k = 2 ∨ k = 8 ∨ k = 9 ∨ k = 22 ∨ k = 28 → S'.1 28 k = S.1 28 k) ∧ (∀ k, k ≠ 0 → k ≠ 3 → k ≠ 23 → S'.2.1 28 k = S.2.1 28 k) ∧ ∀ i, i < 84 → i ≠ q → pg S' i = pg S i
theorem FZ.fy {q : Nat} {S' : tq_St} (h : FZ S S') : FY q S S' := ⟨h.1, h.2.1, h.2.2.1, fun i hi _ => h.2.2.2 i hi⟩
theorem FY.tr {q : Nat} {S T U : tq_St} (h : FY q S T) (h2 : FY q T U) : FY q S U := ⟨h.1.tr h2.1, fun k hk => (h2.2.1 k hk).trans (h.2.1 k hk), fun k a b c => (h2.2.2.1 k a b c).trans (h.2.2.1 k a b c), fun i hi hn => (h2.2.2.2 i hi hn).trans (h.2.2.2 i hi hn)⟩
theorem FY.q {q : Nat} {S T : tq_St} (h : FY q S T) (v : Int32) : FY q S (sA T 28 0 q v) := h.tr ⟨Fr.rf.A _ _ _, fun k hk => rfl, fun k a _ _ => sA_nk _ _ _ _ _ a, fun i hi hn => by rw [pg_at, if_neg hn]⟩
theorem FY.back {q : Nat} {S T : tq_St} (h : FY q S T) {v : Int32} (hv : v = pg S q) : FZ S (sA T 28 0 q v) := by
  have h2 := h.q v
  refine ⟨h2.1, h2.2.1, h2.2.2.1, fun i hi => ?_⟩
  by_cases e : i = q
  · rw [pg_at, if_pos e, hv, e]
  · exact h2.2.2.2 i hi e
theorem FY.g {q : Nat} {S T : tq_St} (h : FY q S T) (i : Nat) (v : Int32) : FY q S (sA T 28 23 i v) := h.tr ⟨Fr.rf.A _ _ _, fun k hk => rfl, fun k _ _ c => sA_nk _ _ _ _ _ c, fun j hj hn => by show (sA T 28 23 i v).2.1 28 0 j = _; rw [sA_nk _ _ _ _ _ (by decide)]⟩
theorem RM.cong {S T : tq_St} {A : aE} (h : RM T 0 A) (hn : aN A ≤ 5) (hc : aC A ≤ 8) (h2 : S.1 28 2 = T.1 28 2) (h1 : S.2.1 28 1 = T.2.1 28 1) (hp : ∀ i, i < 28 → pg S i = pg T i) : RM S 0 A := by
  obtain ⟨r1, r2, r3, r4, r5, r6, r7, r8, r9, r10, r11⟩ := h
  refine ⟨by rw [h2]; exact r1, fun p hq => ?_, fun p hq => ?_, fun p hq => ?_, ?_, ?_, ?_, ?_, ?_, fun i hi => ?_, fun k hk => ?_⟩
  · rw [hp _ (by omega)]; exact r2 p hq
  · rw [hp _ (by omega)]; exact r3 p hq
  · rw [hp _ (by omega)]; exact r4 p hq
  · rw [hp _ (by omega)]; exact r5
  · rw [hp _ (by omega)]; exact r6
  · rw [hp _ (by omega)]; exact r7
  · rw [hp _ (by omega)]; exact r8
  · rw [hp _ (by omega)]; exact r9
  · rw [hp _ (by omega)]; exact r10 i hi
  · rw [h1]; exact r11 k hk
theorem FY.rm {q : Nat} {S0 S : tq_St} {A : aE} {v : Int32} (h : FY q S0 S) (hR : RM (sA S0 28 0 q v) 0 A) (hn : aN A ≤ 5) (hc : aC A ≤ 8) : RM (sA S 28 0 q v) 0 A := by
  refine hR.cong hn hc (h.2.1 2 (by omega)) ?_ (fun i hi => ?_)
  · rw [sA_nk _ _ _ _ _ (by decide), sA_nk _ _ _ _ _ (by decide)]; exact h.2.2.1 1 (by decide) (by decide) (by decide)
  · rw [pg_at, pg_at]
    by_cases e : i = q
    · rw [if_pos e, if_pos e]
    · rw [if_neg e, if_neg e]; exact h.2.2.2 i (by omega) e
theorem RZ.zs (hG : RZ S G) : ZS S (qS G) := hG.2.2.2.2.1
theorem FY.zs {q : Nat} {S0 S : tq_St} {s : Nat × (Nat → Nat) × (Nat → Bool)} (h : FY q S0 S) (hS : ZS S0 s) : ZS S s := by
  unfold ZS
  rw [h.2.1 22 (by omega), h.2.2.1 21 (by decide) (by decide) (by decide)]
  exact hS
theorem z_kinds_22 {S0 : tq_St} {p : Nat} (hG0 : RZ S0 G) (hw : wfQ G) (hp : p < aN (qA G)) (hK : ∀ S', FZ S0 S' → K (nI (kinB G p 4)) S') : ∀ (m k f : Nat) (S : tq_St), k + m = 4 → m < f → FY p S0 S → wp_X7_kinds_22 K f (nI p) (nI (aK (qA G) p)) (nI (kinB G p k)) (nI k) S
  | 0, k, f + 1, S, h1, h2, hF => by
    have hn := hw.1.1
    have e : k = 4 := by omega
    subst e
    unfold wp_X7_kinds_22
    refine pk_le 4 4 (fun _ => ⟨vp_in_nI (by omega) (by decide), nm_e ?_⟩) (fun z => absurd z (by omega))
    rw [nI_clamp (by omega)]
    have q2 : pg S0 p = nI (aK (qA G) p) := by have := hG0.1.2.1 p hp; rwa [Nat.zero_add] at this
    exact hK _ (hF.back q2.symm)
  | m + 1, k, f + 1, S, h1, h2, hF => by
    have hn := hw.1.1
    have hc := hw.1.2.2.2.2.2.2.2.2.1
    unfold wp_X7_kinds_22
    refine pk_le 4 k (fun z => absurd z (by omega)) (fun _ => ⟨vp_in_nI (by omega) (by decide), nm_e ?_⟩)
    rw [nI_clamp (by omega)]
    have hw2 := alterK_wf hw.1 (p := p) (v := k) (by omega)
    have hR0 := hG0.1.k hn hc (p := p) hp k
    rw [Nat.zero_add] at hR0
    have hR : RM (sA S 28 0 p (nI k)) 0 (alterK (qA G) p k) := hF.rm hR0 hn hc
    have hF1 := hF.q (nI k)
    refine z_isAsSeen hw.2.2.2.2.1.1 hw.2.2.2.2.1.2 (hF1.zs hG0.zs) hR hw2 (fun S1 a1 a2 => ?_)
    have ih := z_kinds_22 hG0 hw hp hK m (k + 1) f S1 (by omega) (by omega) (hF1.tr a2.fz.fy)
    unfold kinB at ih
    cases hc : agrB (qS G) (aG (planR (alterK (qA G) p k)).1)
    · refine ⟨fun _ => ?_, fun z => absurd rfl z⟩
      unfold wp_X7_kinds_52
      rw [hc] at ih
      have e0 : nI (kinB G p k) ||| 0 = nI (kinB G p k) := i_or0 _
      exact nm_r e0 (nm_r (nI_1 k) ih)
    · refine ⟨fun z => absurd z (by decide), fun _ => ?_⟩
      unfold wp_X7_kinds_52
      rw [hc] at ih
      exact nm_r (zb_or (by omega)) (nm_r (nI_1 k) ih)
theorem z_kinds {x : Int32} (hG : RZ S G) (hw : wfQ G) (hbad : (∀ p, p < aN (qA G) → x ≠ nI p) → K (-1) S) (hok : ∀ p, p < aN (qA G) → x = nI p → ∀ S', RZ S' G → Fr 28 S S' → K (nI (kinB G p 4)) S') : wp_X7_kinds x S K := by
  have hn := hw.1.1
  unfold wp_X7_kinds
  refine m_isOne hG.1.1 hn (fun p hp e => ⟨fun _ => ?_, fun z => absurd z (by decide)⟩) (fun hno => ⟨fun z => absurd rfl z, fun _ => hbad hno⟩)
  subst e
  have q2 : S.2.1 28 0 p = nI (aK (qA G) p) := by have := hG.1.2.1 p hp; rwa [Nat.zero_add] at this
  rw [nI_clamp (by omega), q2]
  exact ⟨vp_in_nI (by omega) (by decide), nm_e (z_kinds_22 hG hw hp (fun S' f => hok p hp rfl S' (hG.fz hw f) f.1) 4 0 2000 S (by omega) (by omega) FZ.rf.fy)⟩
theorem z_sor_14 {S0 : tq_St} {p : Nat} (hG0 : RZ S0 G) (hw : wfQ G) (hp : p < aN (qA G)) (hK : ∀ S', FZ S0 S' → (∀ s, s < 21 → S'.2.1 28 23 s = nI (ocF (qA G) p s)) → K (nI (sorB G p 21)) S') : ∀ (m k f : Nat) (S : tq_St), k + m = 21 → m < f → FY (5 + p) S0 S → (∀ s, s < k → S.2.1 28 23 s = nI (ocF (qA G) p s)) → wp_X7_sorrowsOf_14 K f (nI p) (nI (aS (qA G) p)) (nI (sorB G p k)) (nI k) S
  | 0, k, f + 1, S, h1, h2, hF, hO => by
    have hn := hw.1.1
    have e : k = 21 := by omega
    subst e
    unfold wp_X7_sorrowsOf_14
    have i5 : (5 : Int32) + nI p = nI (5 + p) := nI_add 5 p
    rw [i5, nI_clamp (n := 5 + p) (by omega)]
    refine pk_lt 20 21 (fun _ => ⟨vp_in_nI (by omega) (by decide), nm_e ?_⟩) (fun z => absurd z (by omega))
    have q2 : pg S0 (5 + p) = nI (aS (qA G) p) := by have := hG0.1.2.2.1 p hp; rwa [Nat.zero_add] at this
    refine hK _ (hF.back q2.symm) (fun s hs => ?_)
    rw [sA_nk _ _ _ _ _ (by decide)]
    exact hO s hs
  | m + 1, k, f + 1, S, h1, h2, hF, hO => by
    have hn := hw.1.1
    have hc := hw.1.2.2.2.2.2.2.2.2.1
    unfold wp_X7_sorrowsOf_14
    have i5 : (5 : Int32) + nI p = nI (5 + p) := nI_add 5 p
    rw [i5, nI_clamp (n := 5 + p) (by omega)]
    refine pk_lt 20 k (fun z => absurd z (by omega)) (fun _ => ⟨vp_in_nI (by omega) (by decide), nm_e ?_⟩)
    have hw2 := alterS_wf hw.1 (p := p) (v := k) (by omega)
    have hR0 := hG0.1.s hn hc (p := p) hp k
    rw [Nat.zero_add] at hR0
    have hR : RM (sA S 28 0 (5 + p) (nI k)) 0 (alterS (qA G) p k) := hF.rm hR0 hn hc
    have hF1 := hF.q (nI k)
    refine z_isAsSeen hw.2.2.2.2.1.1 hw.2.2.2.2.1.2 (hF1.zs hG0.zs) hR hw2 (fun S1 a1 a2 => ?_)
    have q127 : S1.2.1 28 0 (127 : Int32).toNatClampNeg = nI (ocF (qA G) p k) := a1.2.2.2.2.1
    have ih := z_sor_14 hG0 hw hp hK m (k + 1) f (sA S1 28 23 k (nI (ocF (qA G) p k))) (by omega) (by omega) ((hF1.tr a2.fz.fy).g _ _) (fun s hs => by
      rw [sA_at]
      by_cases e : s = k
      · rw [if_pos e, e]
      · rw [if_neg e, a2.2.2.1 23 (by decide), sA_nk _ _ _ _ _ (by decide)]; exact hO s (by omega))
    unfold sorB at ih
    have h47 : ∀ w : Int32, nI (sorB G p k) ||| w = nI (if agrB (qS G) (ocF (qA G) p k) then sorB G p k ||| 2 ^ k else sorB G p k) → wp_X7_sorrowsOf_47 K (wp_X7_sorrowsOf_14 K f) (nI p) (nI (aS (qA G) p)) (nI k) (nI (sorB G p k)) w S1 := by
      intro w hwv
      unfold wp_X7_sorrowsOf_47
      rw [q127, nI_clamp (n := k) (by omega)]
      exact nm_r hwv ⟨vp_in_nI (n := 127) (by decide) (by decide), vp_in_nI (by omega) (by decide), nm_e (nm_r (nI_1 k) ih)⟩
    cases hc : agrB (qS G) (ocF (qA G) p k)
    · have hc' : agrB (qS G) (aG (planR (alterS (qA G) p k)).1) = false := hc
      rw [hc']
      exact ⟨fun _ => h47 0 (by rw [hc]; exact i_or0 _), fun z => absurd rfl z⟩
    · have hc' : agrB (qS G) (aG (planR (alterS (qA G) p k)).1) = true := hc
      rw [hc']
      exact ⟨fun z => absurd z (by decide), fun _ => h47 _ (by rw [hc]; exact zb_or (by omega))⟩
theorem z_sorrowsOf {p : Nat} (hG : RZ S G) (hw : wfQ G) (hp : p < aN (qA G)) (hK : ∀ S', FZ S S' → (∀ s, s < 21 → S'.2.1 28 23 s = nI (ocF (qA G) p s)) → K (nI (sorB G p 21)) S') : wp_X7_sorrowsOf (nI p) S K := by
  have hn := hw.1.1
  unfold wp_X7_sorrowsOf
  have i5 : (5 : Int32) + nI p = nI (5 + p) := nI_add 5 p
  have q2 : S.2.1 28 0 (5 + p) = nI (aS (qA G) p) := by have := hG.1.2.2.1 p hp; rwa [Nat.zero_add] at this
  rw [i5, nI_clamp (n := 5 + p) (by omega), q2]
  exact ⟨vp_in_nI (by omega) (by decide), nm_e (z_sor_14 hG hw hp hK 21 0 2000 S (by omega) (by omega) FZ.rf.fy (fun s hs => by omega))⟩
theorem z_sorrows {x : Int32} (hG : RZ S G) (hw : wfQ G) (hbad : (∀ p, p < aN (qA G) → x ≠ nI p) → K (-1) S) (hok : ∀ p, p < aN (qA G) → x = nI p → ∀ S', RZ S' G → Fr 28 S S' → K (nI (sorB G p 21)) S') : wp_X7_sorrows x S K := by
  unfold wp_X7_sorrows
  refine m_isOne hG.1.1 hw.1.1 (fun p hp e => ⟨fun z => absurd z (by decide), fun _ => ?_⟩) (fun hno => ⟨fun _ => hbad hno, fun z => absurd rfl z⟩)
  subst e
  exact z_sorrowsOf hG hw hp (fun S' f _ => hok p hp rfl S' (hG.fz hw f) f.1)
-- WHOM TO ASK (any answer)
theorem z_ask_58 {rec43 : Int32 → Int32 → Int32 → Int32 → Int32 → Int32 → tq_St → Prop} {v2 v3 v4 v5 v6 : Int32} {q : Nat} (hrec : ∀ a b, rec43 v2 v3 v4 a b (nI (q + 1)) S) : ∀ (m k f : Nat) (v8 : Int32), k + m = 21 → m < f → wp_X7_ask_58 K rec43 f v2 v3 v4 v5 v6 (nI q) v8 (nI k) S := by
  have h138 : ∀ v9 w0 : Int32, wp_X7_ask_138 K rec43 v2 v3 v4 v5 (nI q) v9 w0 S := fun v9 w0 => ⟨fun _ => nm_r (nI_1 q) (hrec _ _), fun _ => nm_r (nI_1 q) (hrec _ _)⟩
  have h122 : ∀ w0 : Int32, wp_X7_ask_122 K rec43 v2 v3 v4 v5 v6 (nI q) w0 S := fun w0 => ⟨fun _ => h138 _ _, fun _ => h138 _ _⟩
  intro m
  induction m with
  | zero =>
    intro k f v8 h1 h2
    obtain ⟨f, rfl⟩ : ∃ j, f = j + 1 := ⟨f - 1, by omega⟩
    unfold wp_X7_ask_58
    exact pk_lt 20 k (fun _ => ⟨fun _ => h122 _, fun _ => h122 _⟩) (fun z => absurd z (by omega))
  | succ m ih =>
    intro k f v8 h1 h2
    obtain ⟨f, rfl⟩ : ∃ j, f = j + 1 := ⟨f - 1, by omega⟩
    unfold wp_X7_ask_58
    have h93 : ∀ w0 w1 : Int32, wp_X7_ask_93 K (wp_X7_ask_58 K rec43 f) rec43 v2 v3 v4 v5 v6 (nI q) (nI k) w0 w1 S := fun w0 w1 => nm_e (nm_r (nI_1 k) (ih (k + 1) f _ (by omega) (by omega)))
    exact pk_lt 20 k (fun z => absurd z (by omega)) (fun _ => ⟨fun _ => h93 _ _, fun _ => ⟨vp_in_nI (by omega) (by decide), h93 _ _⟩⟩)
theorem z_ask_43 {v2 v3 v4 : Int32} {n : Nat} (h5 : S.1 28 2 = nI n) (hn : n ≤ 5) (hK : ∀ r, K r S) : ∀ (m q f : Nat) (v5 v6 : Int32), q + m = n → m < f → wp_X7_ask_43 K f v2 v3 v4 v5 v6 (nI q) S
  | 0, q, f + 1, v5, v6, h1, h2 => by
    unfold wp_X7_ask_43
    rw [h5]
    exact pk_le n q (fun _ => ⟨fun _ => hK _, fun _ => ⟨fun _ => hK _, fun _ => hK _⟩⟩) (fun z => absurd z (by omega))
  | m + 1, q, f + 1, v5, v6, h1, h2 => by
    unfold wp_X7_ask_43
    rw [h5]
    refine pk_le n q (fun z => absurd z (by omega)) (fun _ => ?_)
    exact z_ask_58 (fun a b => z_ask_43 h5 hn hK m (q + 1) f a b (by omega) (by omega)) 21 0 2000 _ (by omega) (by omega)
theorem z_ask {x y : Int32} (hG : RZ S G) (hw : wfQ G) (hK : ∀ r S', RZ S' G → Fr 28 S S' → K r S') : wp_X7_ask x y S K := by
  have hS := fun r => hK r S hG Fr.rf
  unfold wp_X7_ask
  refine m_isOne hG.1.1 hw.1.1 (fun p hp e => ⟨fun z => absurd z (by decide), fun _ => ?_⟩) (fun hno => ⟨fun _ => hS _, fun z => absurd rfl z⟩)
  subst e
  refine m_in 0 1 (by decide) (by decide) (by decide) (fun w _ hw1 e => ⟨fun _ => ?_, fun z => absurd z (by decide)⟩) (fun h => ⟨fun z => absurd rfl z, fun _ => hS _⟩)
  refine z_sorrowsOf hG hw hp (fun S' f _ => ?_)
  have hG' := hG.fz hw f
  have hlt := sorB_lt G p 21
  refine m_bitsOf (Nat.lt_of_lt_of_le hlt (by decide)) ?_
  exact z_ask_43 hG'.1.1 hw.1.1 (fun r => hK r S' hG' f.1) (aN (qA G)) 0 2000 _ _ (by omega) (by have := hw.1.1; omega)
end Z4
