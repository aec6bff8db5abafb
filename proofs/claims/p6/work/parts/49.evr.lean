section EVR
variable {S : tq_St} {g : Nat} {A : aE}
-- HOW MANY BITS
theorem pcN_split {w : Nat} (h : w < 2 ^ 31) {i : Nat} (hi : i ≤ 31) (h0 : w / 2 ^ i = 0) : pcN w = fb_ct (fun j => w.testBit j) i := by
  unfold pcN
  have e := fb_ct_split (fun j => w.testBit j) i (31 - i)
  rw [show i + (31 - i) = 31 by omega] at e
  rw [e]
  have hz : fb_ct (fun k => w.testBit (i + k)) (31 - i) = 0 := by
    rw [fb_ct_zero]
    intro k hk
    have hlt : w < 2 ^ i := by
      have := Nat.div_eq_zero_iff.mp h0
      rcases this with z | z
      · have := Nat.two_pow_pos i; omega
      · exact z
    exact Nat.testBit_lt_two_pow (Nat.lt_of_lt_of_le hlt (Nat.pow_le_pow_right (by decide) (by omega)))
  omega
theorem m_bits_4 {w : Nat} {K : Int32 → tq_St → Prop} (hw : w < 2 ^ 31) (hK : K (nI (pcN w)) S) : ∀ (m i f : Nat), i + m = 31 → m < f → wp_X7_bitsOf_4 K f (nI (fb_ct (fun j => w.testBit j) i)) (nI (w / 2 ^ i)) S
  | 0, i, f + 1, h1, h2 => by
    have hi : i = 31 := by omega
    subst hi
    have e : w / 2 ^ 31 = 0 := Nat.div_eq_of_lt hw
    rw [e]
    refine ⟨fun _ => ?_, fun z => absurd (by decide) z⟩
    rw [← pcN_split hw (Nat.le_refl _) e]
    exact hK
  | m + 1, i, f + 1, h1, h2 => by
    have hlt : w / 2 ^ i < 2 ^ 31 := Nat.lt_of_le_of_lt (Nat.div_le_self _ _) hw
    unfold wp_X7_bitsOf_4
    refine pk_le (w / 2 ^ i) 0 (fun z => ?_) (fun z => ?_)
    · rw [← pcN_split hw (by omega) (Nat.le_zero.mp z)]
      exact hK
    · have e1 : nI (w / 2 ^ i) &&& 1 = nI (if w.testBit i then 1 else 0) := by
        rw [pk_andN (by omega) (m := 1) 1 (by decide)]
        congr 1
        rw [Nat.testBit_eq_decide_div_mod_eq]
        have h2 : w / 2 ^ i % 2 < 2 := Nat.mod_lt _ (by decide)
        by_cases h : w / 2 ^ i % 2 = 1
        · simp [h]
        · have h3 : w / 2 ^ i % 2 = 0 := by omega
          simp [h3]
      have e2 : nI (w / 2 ^ i) >>> ((1 : Int32) &&& 31) = nI (w / 2 ^ (i + 1)) := by
        have h9 : (1 : Int32) = nI 1 := rfl
        rw [h9, pk_shrN hlt _ 1 (s_l 1 (by decide)), Nat.div_div_eq_div_mul, ← Nat.pow_succ]
      rw [e1, e2]
      refine nm_r (nI_add _ _) (nm_e ?_)
      have ih := m_bits_4 hw hK m (i + 1) f (by omega) (by omega)
      rw [fb_ct_succ] at ih
      exact ih
theorem m_bitsOf {w : Nat} {K : Int32 → tq_St → Prop} (hw : w < 2 ^ 31) (hK : K (nI (pcN w)) S) : wp_X7_bitsOf (nI w) S K := by
  have h := m_bits_4 hw hK 31 0 2000 (by omega) (by omega)
  rw [Nat.pow_zero, Nat.div_one] at h
  exact h
-- ALL SORROW, WHO WAITS
theorem m_sorrow_4 {K : Int32 → tq_St → Prop} (hR : RM S g A) (hw : wfE A) (hg : g ≤ 140) (hK : K (nI (sorF A)) S) : ∀ (m p f : Nat), p + m = aN A → m < f → wp_X7_sorrowOn_4 K f (nI g) (nI (fb_sm (fun p => if (aG A).testBit p then 0 else aS A p) p)) (nI p) S
  | 0, p, f + 1, h1, h2 => by
    have hn := hw.1
    unfold wp_X7_sorrowOn_4
    rw [hR.1]
    refine pk_le (aN A) p (fun _ => ?_) (fun z => absurd z (by omega))
    rw [show p = aN A by omega]
    exact hK
  | m + 1, p, f + 1, h1, h2 => by
    have hn := hw.1
    have ih := m_sorrow_4 hR hw hg hK m (p + 1) f (by omega) (by omega)
    rw [fb_sm_succ] at ih
    unfold wp_X7_sorrowOn_4
    rw [hR.1]
    refine pk_le (aN A) p (fun z => absurd z (by omega)) (fun _ => ?_)
    refine m_waits hR.2.2.2.2.1 hg hw.g31 (by omega) (fun hb => ?_) (fun hb => ?_)
    · refine ⟨fun z => absurd z (by decide), fun _ => ?_⟩
      rw [ia5, ia, nI_clamp (by omega)]
      have e1 : S.2.1 28 0 (g + 5 + p) = nI (aS A p) := hR.2.2.1 p (by omega)
      rw [e1]
      refine ⟨vp_in_nI (by omega) (by decide), ?_⟩
      unfold wp_X7_sorrowOn_36
      refine nm_r (nI_add _ _) (nm_r (nI_1 p) ?_)
      rw [if_neg (by rw [hb]; decide)] at ih
      exact ih
    · refine ⟨fun _ => ?_, fun z => absurd rfl z⟩
      unfold wp_X7_sorrowOn_36
      refine nm_r (nI_add _ 0) (nm_r (nI_1 p) ?_)
      rw [if_pos hb] at ih
      exact ih
theorem m_sorrowOn {K : Int32 → tq_St → Prop} (hR : RM S g A) (hw : wfE A) (hg : g ≤ 140) (hK : K (nI (sorF A)) S) : wp_X7_sorrowOn (nI g) S K :=
  m_sorrow_4 hR hw hg hK (aN A) 0 2000 (by omega) (by have := hw.1; omega)
theorem m_waitingOn {K : Int32 → tq_St → Prop} (hR : RM S g A) (hg : g ≤ 140) (hK : K (wbI (aN A) (aG A)) S) : wp_X7_waitingOn (nI g) S K := by
  unfold wp_X7_waitingOn
  rw [ia15, nI_clamp (by omega)]
  have e1 : S.2.1 28 0 (g + 15) = nI (aG A) := hR.2.2.2.2.1
  rw [e1, hR.1]
  exact ⟨vp_in_nI (by omega) (by decide), hK⟩
-- A COPY
theorem m_copies_2 {S0 : tq_St} {a b : Nat} {K : tq_St → Prop} (ha : a ≤ 140) (hb : b ≤ 140) (hd : a + 28 ≤ b ∨ b + 28 ≤ a) (hK : ∀ S', FM b S0 S' → (∀ j, j < 28 → pg S' (b + j) = pg S0 (a + j)) → K S') : ∀ (m i f : Nat) (S : tq_St), i + m = 28 → m < f → FM b S0 S → (∀ j, j < i → pg S (b + j) = pg S0 (a + j)) → wp_X7_copies_2 K f (nI a) (nI b) (nI i) S
  | 0, i, f + 1, S, h1, h2, hF, hI => by
    have hi : i = 28 := by omega
    subst hi
    exact pk_le 28 28 (fun _ => hK S hF hI) (fun z => absurd z (by omega))
  | m + 1, i, f + 1, S, h1, h2, hF, hI => by
    unfold wp_X7_copies_2
    refine pk_le 28 i (fun z => absurd z (by omega)) (fun _ => ?_)
    rw [ia, ia, nI_clamp (n := b + i) (by omega), nI_clamp (n := a + i) (by omega)]
    refine ⟨vp_in_nI (by omega) (by decide), vp_in_nI (by omega) (by decide), nm_e (nm_r (nI_1 i) ?_)⟩
    refine m_copies_2 ha hb hd hK m (i + 1) f _ (by omega) (by omega) (hF.a (by omega) _) (fun j hj => ?_)
    rw [pg_at]
    by_cases e : j = i
    · subst e; rw [if_pos rfl]; exact hF.2.2.2.1 _ (by omega)
    · rw [if_neg (by omega)]; exact hI j (by omega)
theorem m_copies {a b : Nat} {K : tq_St → Prop} (ha : a ≤ 140) (hb : b ≤ 140) (hd : a + 28 ≤ b ∨ b + 28 ≤ a) (hR : RM S a A) (hn : aN A ≤ 5) (hc : aC A ≤ 8) (hK : ∀ S', FM b S S' → RM S' b A → K S') : wp_X7_copies (nI a) (nI b) S K := by
  refine m_copies_2 ha hb hd (fun S' f h => hK S' f ?_) 28 0 2000 S (by omega) (by omega) FM.rf (fun j hj => by omega)
  obtain ⟨h1, h2, h3, h4, h5, h6, h7, h8, h9, h10, h11⟩ := hR
  refine ⟨by rw [f.1]; exact h1, fun p hp => ?_, fun p hp => ?_, fun p hp => ?_, ?_, ?_, ?_, ?_, ?_, fun i hi => ?_, fun k hk => ?_⟩
  · rw [h p (by omega)]; exact h2 p hp
  · rw [Nat.add_assoc, h (5 + p) (by omega), ← Nat.add_assoc]; exact h3 p hp
  · rw [Nat.add_assoc, h (10 + p) (by omega), ← Nat.add_assoc]; exact h4 p hp
  · rw [h 15 (by omega)]; exact h5
  · rw [h 16 (by omega)]; exact h6
  · rw [h 17 (by omega)]; exact h7
  · rw [h 18 (by omega)]; exact h8
  · rw [h 27 (by omega)]; exact h9
  · rw [Nat.add_assoc, h (19 + i) (by omega), ← Nat.add_assoc]; exact h10 i hi
  · rw [f.2.2.1 1 (by decide)]; exact h11 k hk
-- ON TRIAL: the page at 112 and the tallies
def FT (S S' : tq_St) : Prop := (∀ o, o ≠ 28 → S'.1 o = S.1 o ∧ S'.2.1 o = S.2.1 o) ∧ (∀ k, k ≠ 18 → k ≠ 19 → k ≠ 20 → S'.1 28 k = S.1 28 k) ∧ (∀ k, k ≠ 0 → S'.2.1 28 k = S.2.1 28 k) ∧ (∀ i, i < 112 ∨ 140 ≤ i → pg S' i = pg S i) ∧ S'.2.2 = S.2.2
theorem FT.rf : FT S S := ⟨fun _ _ => ⟨rfl, rfl⟩, fun _ _ _ _ => rfl, fun _ _ => rfl, fun _ _ => rfl, rfl⟩
theorem FT.tr {S T U : tq_St} (h : FT S T) (h2 : FT T U) : FT S U := ⟨fun o ho => ⟨((h2.1 o ho).1).trans (h.1 o ho).1, ((h2.1 o ho).2).trans (h.1 o ho).2⟩, fun k a b c => (h2.2.1 k a b c).trans (h.2.1 k a b c), fun k hk => (h2.2.2.1 k hk).trans (h.2.2.1 k hk), fun i hi => (h2.2.2.2.1 i hi).trans (h.2.2.2.1 i hi), h2.2.2.2.2.trans h.2.2.2.2⟩
theorem FM.ft {S S' : tq_St} (h : FM 112 S S') : FT S S' := ⟨fun o ho => ⟨by rw [h.1], h.2.1 o ho⟩, fun k _ _ _ => by rw [h.1], h.2.2.1, h.2.2.2.1, h.2.2.2.2⟩
theorem FT.I {S T : tq_St} (h : FT S T) {k : Nat} (hk : 18 ≤ k ∧ k ≤ 20) (v : Int32) : FT S (sI T 28 k v) :=
  h.tr ⟨fun o ho => ⟨sI_1n T ho, rfl⟩, fun j a b c => by rw [sI_1, if_neg (by omega)], fun _ _ => rfl, fun _ _ => rfl, rfl⟩
theorem RM.ft {S' : tq_St} (h : RM S g A) (f : FT S S') (hn : aN A ≤ 5) (hc : aC A ≤ 8) (hd : g + 28 ≤ 112 ∨ 140 ≤ g) : RM S' g A := by
  obtain ⟨h1, h2, h3, h4, h5, h6, h7, h8, h9, h10, h11⟩ := h
  obtain ⟨f1, f2, f3, f4, f5⟩ := f
  refine ⟨by rw [f2 2 (by decide) (by decide) (by decide)]; exact h1, fun p hp => ?_, fun p hp => ?_, fun p hp => ?_, ?_, ?_, ?_, ?_, ?_, fun i hi => ?_, fun k hk => ?_⟩
  · rw [f4 _ (by omega)]; exact h2 p hp
  · rw [f4 _ (by omega)]; exact h3 p hp
  · rw [f4 _ (by omega)]; exact h4 p hp
  · rw [f4 _ (by omega)]; exact h5
  · rw [f4 _ (by omega)]; exact h6
  · rw [f4 _ (by omega)]; exact h7
  · rw [f4 _ (by omega)]; exact h8
  · rw [f4 _ (by omega)]; exact h9
  · rw [f4 _ (by omega)]; exact h10 i hi
  · rw [f3 1 (by decide)]; exact h11 k hk
theorem RM.i (h : RM S g A) {k : Nat} (hk : k ≠ 2) (v : Int32) : RM (sI S 28 k v) g A := by
  obtain ⟨h1, hr⟩ := h
  refine ⟨by rw [sI_1, if_neg (by omega)]; exact h1, hr⟩
def TM (S : tq_St) (t : aY) : Prop := S.1 28 18 = nI t.1 ∧ S.1 28 19 = nI t.2.1 ∧ S.1 28 20 = oI t.2.2
theorem m_begins {K : tq_St → Prop} (hR : RM S g A) (hw : wfE A) (hg : g + 28 ≤ 112 ∨ g = 140) (hK : ∀ S', RM S' 112 A → FT S S' → TM S' (0, 0, none) → K S') : wp_X7_begins (nI g) S K := by
  unfold wp_X7_begins
  refine m_copies (b := 112) (by omega) (by omega) (by omega) hR hw.1 hw.2.2.2.2.2.2.2.2.1 (fun S2 f r => ?_)
  refine nm_e (nm_e (nm_e ?_))
  refine hK _ (((r.i (by decide) _).i (by decide) _).i (by decide) _) (((f.ft.I (by omega) _).I (by omega) _).I (by omega) _) ⟨?_, ?_, ?_⟩
  · simp [sI_1]; rfl
  · simp [sI_1]; rfl
  · simp [sI_1]; rfl
theorem m_acts {a : Nat} {t : aY} {K : Int32 → tq_St → Prop} (hR : RM S 112 A) (hw : wfE A) (ha : okA (aN A) a) (hT : TM S t) (hK : ∀ S', RM S' 112 (playF A a) → FT S S' → TM S' (t.1 ||| plW A a, t.2.1 + pcN (plW A a), t.2.2) → K (bI (plD A a)) S') : wp_X7_acts (nI a) S K := by
  have hn := hw.1
  have h32 := zb_p31 hn
  unfold okA at ha
  unfold wp_X7_acts
  have e5 : (5 : Int32) = nI 5 := rfl
  have e6 : (6 : Int32) = nI 6 := rfl
  have e112 : (112 : Int32) = nI 112 := rfl
  rw [e5, e6, e112, nI_eq (by omega) (by decide), nI_eq (by omega) (by decide)]
  unfold playF plW plD at hK
  refine ⟨fun h5 => ⟨fun h6 => ?_, fun h6 => ?_⟩, fun h5 => ?_⟩
  · rw [if_neg h5, if_neg h6, if_neg h5, if_neg h6, if_neg h5, if_neg h6] at hK
    have ha2 : a < aN A := by omega
    refine m_waits hR.2.2.2.2.1 (by omega) hw.g31 (by omega) (fun hb => ?_) (fun hb => ?_)
    · refine ⟨fun z => absurd z (by decide), fun _ => ?_⟩
      simp only [hb, Bool.false_eq_true, if_false] at hK
      refine m_thinksOn hR hw (by omega) ha2 (fun S2 a1 a2 => nm_e ?_)
      have hlt := (thinkF_wf hw a).2
      refine m_bitsOf (by omega) (nm_e ?_)
      refine hK _ ((a1.i (by decide) _).i (by decide) _) ((a2.ft.I (by omega) _).I (by omega) _) ⟨?_, ?_, ?_⟩
      · rw [sI_1, if_neg (by decide), sI_1, if_pos rfl, a2.1, hT.1, fa_or]
      · rw [sI_1, if_pos rfl, sI_1, if_neg (by decide), a2.1, hT.2.1, nI_add]
      · rw [sI_1, if_neg (by decide), sI_1, if_neg (by decide), a2.1, hT.2.2]
    · refine ⟨fun _ => ?_, fun z => absurd rfl z⟩
      simp only [hb, if_true] at hK
      exact hK S hR FT.rf ⟨by rw [hT.1, Nat.or_zero], by rw [hT.2.1, pcN_0, Nat.add_zero], hT.2.2⟩
  · rw [if_neg h5, if_pos h6, if_neg h5, if_pos h6, if_neg h5, if_pos h6] at hK
    refine m_tramOn hR hw (by omega) (fun S2 a1 a2 => hK S2 a1 a2.ft ⟨?_, ?_, ?_⟩)
    · rw [a2.1, hT.1, Nat.or_zero]
    · rw [a2.1, hT.2.1, pcN_0, Nat.add_zero]
    · rw [a2.1, hT.2.2]
  · rw [if_pos h5, if_pos h5, if_pos h5] at hK
    refine m_minuteOn hR hw (by omega) (fun S2 a1 a2 => hK S2 a1 a2.ft ⟨?_, ?_, ?_⟩)
    · rw [a2.1, hT.1, Nat.or_zero]
    · rw [a2.1, hT.2.1, pcN_0, Nat.add_zero]
    · rw [a2.1, hT.2.2]
-- THE PLAN, SOME ACTS LEFT OUT
def goM (ac : Nat → Nat) (but : Nat) : Nat → Nat → aE → aY → aE × aY
  | 0, _, A, t => (A, t)
  | m + 1, i, A, t => if but.testBit i then goM ac but m (i + 1) A t else goM ac but m (i + 1) (playF A (ac i)) (t.1 ||| plW A (ac i), t.2.1 + pcN (plW A (ac i)), if plD A (ac i) then t.2.2 else match t.2.2 with
    | none => some i
    | some j => some j)
theorem goM_0 (ac : Nat → Nat) : ∀ (m i : Nat) (A : aE) (t : aY), goM ac 0 m i A t = goP ac m i A t
  | 0, i, A, t => rfl
  | m + 1, i, A, t => by
    unfold goM goP
    rw [if_neg (by simp), goM_0 ac m]
    rfl
abbrev planM (A : aE) (but : Nat) : aE × aY := goM (aA A) but (aC A) 0 A (0, 0, none)
theorem goM_ok {ac : Nat → Nat} {but : Nat} : ∀ (m i : Nat) (A : aE) (t : aY), wfE A → wfE (goM ac but m i A t).1 ∧ aN (goM ac but m i A t).1 = aN A
  | 0, i, A, t, hw => ⟨hw, rfl⟩
  | m + 1, i, A, t, hw => by
    unfold goM
    by_cases h : but.testBit i = true
    · rw [if_pos h]; exact goM_ok m _ A t hw
    · rw [if_neg h]
      obtain ⟨h1, h2⟩ := goM_ok (ac := ac) (but := but) m (i + 1) (playF A (ac i)) (t.1 ||| plW A (ac i), t.2.1 + pcN (plW A (ac i)), if plD A (ac i) then t.2.2 else match t.2.2 with
        | none => some i
        | some j => some j) (playF_wf hw _)
      exact ⟨h1, h2.trans (playF_same A (ac i)).1⟩
theorem m_pg_7 {S0 : tq_St} {P : aE} {but : Nat} {K : tq_St → Prop} (hP : RM S0 g P) (hwP : wfE P) (hg : g + 28 ≤ 112 ∨ g = 140) (hb : but < 2 ^ 31) : ∀ (m i f : Nat) (A : aE) (t : aY) (S : tq_St), i + m = aC P → m < f → wfE A → aN A = aN P → RM S 112 A → TM S t → (∀ j, t.2.2 = some j → j < 8) → FT S0 S → (∀ S', RM S' 112 (goM (aA P) but m i A t).1 → TM S' (goM (aA P) but m i A t).2 → FT S0 S' → K S') → wp_X7_planGoes_7 K f (nI g) (nI but) (nI i) S
  | 0, i, f + 1, A, t, S, h1, h2, hw, hN, hR, hT, hj, hF, hK => by
    have hcP := hwP.2.2.2.2.2.2.2.2.1
    have hS := hP.ft hF hwP.1 hcP (by omega)
    have e27 : S.2.1 28 0 (g + 27) = nI (aC P) := hS.2.2.2.2.2.2.2.2.1
    unfold wp_X7_planGoes_7
    rw [ia27, nI_clamp (n := g + 27) (by omega), e27]
    exact ⟨vp_in_nI (by omega) (by decide), pk_le (aC P) i (fun _ => hK S hR hT hF) (fun z => absurd z (by omega))⟩
  | m + 1, i, f + 1, A, t, S, h1, h2, hw, hN, hR, hT, hj, hF, hK => by
    have hcP := hwP.2.2.2.2.2.2.2.2.1
    have hS := hP.ft hF hwP.1 hcP (by omega)
    have e27 : S.2.1 28 0 (g + 27) = nI (aC P) := hS.2.2.2.2.2.2.2.2.1
    have e19 : S.2.1 28 0 (g + 19 + i) = nI (aA P i) := hS.2.2.2.2.2.2.2.2.2.1 i (by omega)
    unfold wp_X7_planGoes_7
    rw [ia27, nI_clamp (n := g + 27) (by omega), e27]
    refine ⟨vp_in_nI (by omega) (by decide), pk_le (aC P) i (fun z => absurd z (by omega)) (fun _ => ?_)⟩
    rw [zb_0 hb (by omega)]
    unfold goM at hK
    refine ⟨fun z => nm_r (nI_1 i) ?_, fun z => ?_⟩
    · have hbt : but.testBit i = true := by
        cases h : but.testBit i
        · exact absurd h z
        · rfl
      rw [if_pos hbt] at hK
      exact m_pg_7 hP hwP hg hb m (i + 1) f A t S (by omega) (by omega) hw hN hR hT hj hF hK
    · rw [if_neg (by rw [z]; decide)] at hK
      rw [ia19, ia, nI_clamp (n := g + 19 + i) (by omega), e19]
      refine ⟨vp_in_nI (by omega) (by decide), ?_⟩
      have hok : okA (aN A) (aA P i) := by rw [hN]; exact hwP.2.2.2.2.2.2.2.2.2 i (by omega)
      have hN2 := (playF_same A (aA P i)).1.trans hN
      refine m_acts hR hw hok hT (fun S' a1 a2 a3 => ?_)
      cases hd : plD A (aA P i)
      · refine ⟨fun z => absurd rfl z, fun _ => ?_⟩
        simp only [hd, Bool.false_eq_true, if_false] at hK
        rw [a3.2.2]
        cases ht : t.2.2 with
        | none =>
          rw [ht] at hK
          refine ⟨fun z => absurd rfl z, fun _ => nm_e (nm_r (nI_1 i) ?_)⟩
          refine m_pg_7 hP hwP hg hb m (i + 1) f _ _ _ (by omega) (by omega) (playF_wf hw _) hN2 (a1.i (by decide) _) ⟨?_, ?_, ?_⟩ (fun j e => by cases e; omega) ((hF.tr a2).I (by omega) _) hK
          · rw [sI_1, if_neg (by decide)]; exact a3.1
          · rw [sI_1, if_neg (by decide)]; exact a3.2.1
          · rw [sI_1, if_pos rfl]; rfl
        | some j =>
          rw [ht] at hK
          refine ⟨fun _ => nm_e (nm_r (nI_1 i) ?_), fun z => absurd z (oI_ne (by have := hj j ht; omega))⟩
          refine m_pg_7 hP hwP hg hb m (i + 1) f _ _ _ (by omega) (by omega) (playF_wf hw _) hN2 (a1.i (by decide) _) ⟨?_, ?_, ?_⟩ (fun j' e => by cases e; exact hj j ht) ((hF.tr a2).I (by omega) _) hK
          · rw [sI_1, if_neg (by decide)]; exact a3.1
          · rw [sI_1, if_neg (by decide)]; exact a3.2.1
          · rw [sI_1, if_pos rfl]
      · refine ⟨fun _ => nm_r (nI_1 i) ?_, fun z => absurd z (by decide)⟩
        simp only [hd, if_true] at hK
        exact m_pg_7 hP hwP hg hb m (i + 1) f _ _ _ (by omega) (by omega) (playF_wf hw _) hN2 a1 a3 hj (hF.tr a2) hK
theorem m_planGoes {but : Nat} {K : tq_St → Prop} (hR : RM S g A) (hw : wfE A) (hg : g + 28 ≤ 112 ∨ g = 140) (hb : but < 2 ^ 31) (hK : ∀ S', RM S' 112 (planM A but).1 → TM S' (planM A but).2 → FT S S' → K S') : wp_X7_planGoes (nI g) (nI but) S K := by
  unfold wp_X7_planGoes
  refine m_begins hR hw hg (fun S2 a1 a2 a3 => ?_)
  exact m_pg_7 hR hw hg hb (aC A) 0 2000 A _ S2 (by omega) (by have := hw.2.2.2.2.2.2.2.2.1; omega) hw rfl a1 a3 (fun j e => by cases e) a2 hK
end EVR
