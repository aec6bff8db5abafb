section EVP
variable {S : tq_St} {o : Nat} {A : aE}
theorem i_or0 (x : Int32) : x ||| nI 0 = x := by
  apply Int32.toBitVec_inj.1
  show x.toBitVec ||| BitVec.ofNat 32 0 = x.toBitVec
  simp
theorem i_add0 (x : Int32) : x + nI 0 = x := by
  apply Int32.toBitVec_inj.1
  show x.toBitVec + BitVec.ofNat 32 0 = x.toBitVec
  simp
theorem pcN_0 : pcN 0 = 0 := by decide
-- AN ACT
def okA (n a : Nat) : Prop := a < n ∨ a = 5 ∨ a = 6
def playF (A : aE) (a : Nat) : aE := if a = 5 then dryF A else if a = 6 then boardF A else if (aG A).testBit a then A else thinkF A a
def plW (A : aE) (a : Nat) : Nat := if a = 5 then 0 else if a = 6 then 0 else if (aG A).testBit a then 0 else (tkF A a).2.2
def plD (A : aE) (a : Nat) : Bool := if a = 5 then true else if a = 6 then true else !(aG A).testBit a
theorem playF_wf (hw : wfE A) (a : Nat) : wfE (playF A a) := by
  unfold playF
  split
  · exact dryF_wf hw
  · split
    · exact boardF_wf hw
    · split
      · exact hw
      · exact (thinkF_wf hw a).1
theorem plW_lt (hw : wfE A) (a : Nat) : plW A a < 2 ^ aN A := by
  unfold plW
  split
  · exact Nat.two_pow_pos _
  · split
    · exact Nat.two_pow_pos _
    · split
      · exact Nat.two_pow_pos _
      · exact (thinkF_wf hw a).2
theorem playF_same (A : aE) (a : Nat) : aN (playF A a) = aN A ∧ aK (playF A a) = aK A ∧ aR (playF A a) = aR A ∧ aT (playF A a) = aT A ∧ aC (playF A a) = aC A ∧ aA (playF A a) = aA A := by
  unfold playF
  split
  · exact ⟨rfl, rfl, rfl, rfl, rfl, rfl⟩
  · split
    · exact ⟨rfl, rfl, rfl, rfl, rfl, rfl⟩
    · split
      · exact ⟨rfl, rfl, rfl, rfl, rfl, rfl⟩
      · exact ⟨rfl, rfl, rfl, rfl, rfl, rfl⟩
def bI (b : Bool) : Int32 := if b then 1 else 0
theorem c_play {a : Nat} {K : Int32 → tq_St → Prop} (hR : RC S o A) (hw : wfE A) (ha : okA (aN A) a) (hK : ∀ S', RC S' o (playF A a) → Fr o S S' → S'.1 o 11 = S.1 o 11 ||| nI (plW A a) → S'.1 o 12 = S.1 o 12 + nI (pcN (plW A a)) → S'.1 o 13 = S.1 o 13 → K (bI (plD A a)) S') : wp_X1_play o (nI a) S K := by
  have hn := hw.1
  unfold okA at ha
  unfold wp_X1_play
  have e5 : (5 : Int32) = nI 5 := rfl
  have e6 : (6 : Int32) = nI 6 := rfl
  rw [e5, e6, nI_eq (by omega) (by decide), nI_eq (by omega) (by decide)]
  unfold playF plW plD at hK
  refine ⟨fun h5 => ⟨fun h6 => ?_, fun h6 => ?_⟩, fun h5 => ?_⟩
  · rw [if_neg h5, if_neg h6, if_neg h5, if_neg h6, if_neg h5, if_neg h6] at hK
    have ha2 : a < aN A := by omega
    refine c_waitsN hR.1 hn hR.2.1 hw.g31 ha2 (fun hb => ?_) (fun hb => ?_)
    · refine ⟨fun _ => ?_, fun z => absurd z (by decide)⟩
      simp only [hb, Bool.false_eq_true, if_false] at hK
      exact c_think hR hw ha2 hK
    · refine ⟨fun z => absurd rfl z, fun _ => ?_⟩
      simp only [hb, if_true] at hK
      exact hK S hR Fr.rf (by rw [i_or0]) (by rw [pcN_0, i_add0]) rfl
  · rw [if_neg h5, if_pos h6, if_neg h5, if_pos h6, if_neg h5, if_pos h6] at hK
    refine c_board hR hw (fun S' a1 a2 a3 => hK S' a1 a2 ?_ ?_ ?_)
    · rw [i_or0, a3 _ (by decide)]
    · rw [pcN_0, i_add0, a3 _ (by decide)]
    · rw [a3 _ (by decide)]
  · rw [if_pos h5, if_pos h5, if_pos h5] at hK
    refine c_dry hR hw (fun S' a1 a2 a3 => hK S' a1 a2 ?_ ?_ ?_)
    · rw [i_or0, a3 _ (by decide)]
    · rw [pcN_0, i_add0, a3 _ (by decide)]
    · rw [a3 _ (by decide)]
-- THE PLAN
abbrev aY : Type := Nat × Nat × Option Nat
def goP (ac : Nat → Nat) : Nat → Nat → aE → aY → aE × aY
  | 0, _, A, t => (A, t)
  | m + 1, i, A, t => goP ac m (i + 1) (playF A (ac i)) (t.1 ||| plW A (ac i), t.2.1 + pcN (plW A (ac i)), if plD A (ac i) then t.2.2 else match t.2.2 with
    | none => some i
    | some j => some j)
def TC (S : tq_St) (o : Nat) (t : aY) : Prop := S.1 o 11 = nI t.1 ∧ S.1 o 12 = nI t.2.1 ∧ S.1 o 13 = oI t.2.2
abbrev planR (A : aE) : aE × aY := goP (aA A) (aC A) 0 A (0, 0, none)
theorem goP_ok {ac : Nat → Nat} : ∀ (m i : Nat) (A : aE) (t : aY), wfE A → wfE (goP ac m i A t).1 ∧ aN (goP ac m i A t).1 = aN A ∧ aK (goP ac m i A t).1 = aK A ∧ aR (goP ac m i A t).1 = aR A ∧ aT (goP ac m i A t).1 = aT A ∧ aC (goP ac m i A t).1 = aC A ∧ aA (goP ac m i A t).1 = aA A
  | 0, i, A, t, hw => ⟨hw, rfl, rfl, rfl, rfl, rfl, rfl⟩
  | m + 1, i, A, t, hw => by
    unfold goP
    obtain ⟨h1, h2, h3, h4, h5, h6, h7⟩ := goP_ok (ac := ac) m (i + 1) (playF A (ac i)) (t.1 ||| plW A (ac i), t.2.1 + pcN (plW A (ac i)), if plD A (ac i) then t.2.2 else match t.2.2 with
      | none => some i
      | some j => some j) (playF_wf hw _)
    obtain ⟨g2, g3, g4, g5, g6, g7⟩ := playF_same A (ac i)
    exact ⟨h1, h2.trans g2, h3.trans g3, h4.trans g4, h5.trans g5, h6.trans g6, h7.trans g7⟩
theorem c_follow_2 {S0 : tq_St} {c : Nat} {ac : Nat → Nat} {n : Nat} {K : tq_St → Prop} (hc : c ≤ 8) (hac : ∀ i, i < c → okA n (ac i)) : ∀ (m i f : Nat) (A : aE) (t : aY) (S : tq_St), i + m = c → m < f → wfE A → aN A = n → aC A = c → aA A = ac → RC S o A → TC S o t → (∀ j, t.2.2 = some j → j < 8) → Fr o S0 S → (∀ S', RC S' o (goP ac m i A t).1 → TC S' o (goP ac m i A t).2 → Fr o S0 S' → K S') → wp_X1_followPlan_2 o K f (nI i) S
  | 0, i, f + 1, A, t, S, h1, h2, hw, hN, hC, hA, hR, hT, hj, hF, hK => by
    unfold wp_X1_followPlan_2
    rw [hR.2.2.2.2.2.1, hC]
    exact pk_le c i (fun _ => hK S hR hT hF) (fun z => absurd z (by omega))
  | m + 1, i, f + 1, A, t, S, h1, h2, hw, hN, hC, hA, hR, hT, hj, hF, hK => by
    unfold wp_X1_followPlan_2
    rw [hR.2.2.2.2.2.1, hC]
    refine pk_le c i (fun z => absurd z (by omega)) (fun _ => ⟨vp_in_nI (by omega) (by decide), ?_⟩)
    rw [nI_clamp (by omega), hR.2.2.2.2.2.2.2.2.2 i (by rw [hC]; omega), hA]
    obtain ⟨g2, g3, g4, g5, g6, g7⟩ := playF_same A (ac i)
    unfold goP at hK
    refine c_play hR hw (by rw [hN]; exact hac i (by omega)) (fun S' a1 a2 a3 a4 a5 => ?_)
    have hT1 : S'.1 o 11 = nI (t.1 ||| plW A (ac i)) := by rw [a3, hT.1, fa_or]
    have hT2 : S'.1 o 12 = nI (t.2.1 + pcN (plW A (ac i))) := by rw [a4, hT.2.1, nI_add]
    cases hd : plD A (ac i)
    · refine ⟨fun z => absurd rfl z, fun _ => ?_⟩
      rw [a5, hT.2.2]
      simp only [hd, Bool.false_eq_true, if_false] at hK
      cases ht : t.2.2 with
      | none =>
        rw [ht] at hK
        refine ⟨fun z => absurd rfl z, fun _ => nm_e (nm_r (nI_1 i) ?_)⟩
        refine c_follow_2 hc hac m (i + 1) f _ _ _ (by omega) (by omega) (playF_wf hw _) (g2.trans hN) (g6.trans hC) (g7.trans hA) (a1.t (by decide) _) ⟨?_, ?_, ?_⟩ (fun j e => by cases e; omega) ((hF.tr a2).I _ _) hK
        · rw [sI_1, if_neg (by decide)]; exact hT1
        · rw [sI_1, if_neg (by decide)]; exact hT2
        · rw [sI_1, if_pos rfl]; rfl
      | some j =>
        rw [ht] at hK
        refine ⟨fun _ => nm_r (nI_1 i) ?_, fun z => absurd z (oI_ne (by have := hj j ht; omega))⟩
        exact c_follow_2 hc hac m (i + 1) f _ _ _ (by omega) (by omega) (playF_wf hw _) (g2.trans hN) (g6.trans hC) (g7.trans hA) a1 ⟨hT1, hT2, by rw [a5, hT.2.2, ht]⟩ (fun j' e => by cases e; exact hj j ht) (hF.tr a2) hK
    · refine ⟨fun _ => nm_r (nI_1 i) ?_, fun z => absurd z (by decide)⟩
      simp only [hd, if_true] at hK
      exact c_follow_2 hc hac m (i + 1) f _ (t.1 ||| plW A (ac i), t.2.1 + pcN (plW A (ac i)), t.2.2) _ (by omega) (by omega) (playF_wf hw _) (g2.trans hN) (g6.trans hC) (g7.trans hA) a1 ⟨hT1, hT2, by rw [a5, hT.2.2]⟩ hj (hF.tr a2) hK
theorem c_follow {K : tq_St → Prop} (hR : RC S o A) (hw : wfE A) (hT : TC S o (0, 0, none)) (hK : ∀ S', RC S' o (planR A).1 → TC S' o (planR A).2 → Fr o S S' → K S') : wp_X1_followPlan o S K :=
  c_follow_2 (n := aN A) hw.2.2.2.2.2.2.2.2.1 hw.2.2.2.2.2.2.2.2.2 (aC A) 0 2000 A _ S (by omega) (by have := hw.2.2.2.2.2.2.2.2.1; omega) hw rfl rfl rfl hR hT (fun j e => by cases e) Fr.rf hK
-- A COPY
theorem c_copyFrom {p : Nat} {K : tq_St → Prop} (hR : RC S p A) (hw : wfE A) (hne : p ≠ o) (hK : ∀ S', RC S' o A → Fr o S S' → S'.1 o 11 = S.1 p 11 → S'.1 o 12 = S.1 p 12 → S'.1 o 13 = S.1 p 13 → K S') : wp_X1_copyFrom o p S K := by
  have hn := hw.1
  have hc := hw.2.2.2.2.2.2.2.2.1
  obtain ⟨h5, h6, h7, h8, h9, h10, hk, hs, hW, ha⟩ := hR
  unfold wp_X1_copyFrom
  have d5 : ¬ (5 : Int32) < 0 := by decide
  have d8 : ¬ (8 : Int32) < 0 := by decide
  have c5 : (5 : Int32).toNatClampNeg = 5 := by decide
  have c8 : (8 : Int32).toNatClampNeg = 8 := by decide
  rw [c5, c8]
  refine ⟨d5, Nat.le_refl _, Nat.le_refl _, nm_e ⟨d5, Nat.le_refl _, Nat.le_refl _, nm_e ⟨d5, Nat.le_refl _, Nat.le_refl _, nm_e ⟨d8, Nat.le_refl _, Nat.le_refl _, nm_e (nm_e (nm_e (nm_e (nm_e (nm_e (nm_e (nm_e (nm_e (nm_e ?_)))))))))⟩⟩⟩⟩
  refine hK _ ⟨?_, ?_, ?_, ?_, ?_, ?_, fun q hq => ?_, fun q hq => ?_, fun q hq => ?_, fun q hq => ?_⟩ ?_ ?_ ?_ ?_
  · simp [sI, sC, upd, hne, h5]
  · simp [sI, sC, upd, hne, h6]
  · simp [sI, sC, upd, hne, h7]
  · simp [sI, sC, upd, hne, h8]
  · simp [sI, sC, upd, hne, h9]
  · simp [sI, sC, upd, hne, h10]
  · have h : q < 5 := by omega
    simp [sI, sC, hne, va_cpy, h, hk q hq]
  · have h : q < 5 := by omega
    simp [sI, sC, hne, va_cpy, h, hs q hq]
  · have h : q < 5 := by omega
    simp [sI, sC, hne, va_cpy, h, hW q hq]
  · have h : q < 8 := by omega
    simp [sI, sC, hne, va_cpy, h, ha q hq]
  · exact ((((((((((((Fr.rf.C _ _).C _ _).C _ _).C _ _).I _ _).I _ _).I _ _).I _ _).I _ _).I _ _).I _ _).I _ _).I _ _
  · simp [sI, sC, upd, hne]
  · simp [sI, sC, upd, hne]
  · simp [sI, sC, upd, hne]
theorem c_clearTally {K : tq_St → Prop} (hR : RC S o A) (hK : ∀ S', RC S' o A → Fr o S S' → TC S' o (0, 0, none) → K S') : wp_X1_clearTally o S K := by
  unfold wp_X1_clearTally
  refine nm_e (nm_e (nm_e ?_))
  refine hK _ (((hR.t (by decide) _).t (by decide) _).t (by decide) _) (((Fr.rf.I _ _).I _ _).I _ _) ⟨?_, ?_, ?_⟩
  · simp [sI_1]; rfl
  · simp [sI_1]; rfl
  · simp [sI_1]; rfl
theorem c_startFrom {p : Nat} {K : tq_St → Prop} (hR : RC S p A) (hw : wfE A) (hne : p ≠ o) (hK : ∀ S', RC S' o A → Fr o S S' → TC S' o (0, 0, none) → K S') : wp_X1_startFrom o p S K := by
  unfold wp_X1_startFrom
  refine c_copyFrom hR hw hne (fun S2 a1 a2 _ _ _ => ?_)
  exact c_clearTally a1 (fun S3 b1 b2 b3 => hK S3 b1 (a2.tr b2) b3)
-- WHAT IS ASKED OF AN EVENING
def sorF (A : aE) : Nat := fb_sm (fun p => if (aG A).testBit p then 0 else aS A p) (aN A)
theorem c_allSorrow_4 {K : Int32 → tq_St → Prop} (hR : RC S o A) (hw : wfE A) (hK : K (nI (sorF A)) S) : ∀ (m p f : Nat), p + m = aN A → m < f → wp_X1_allSorrow_4 o K f (nI (fb_sm (fun p => if (aG A).testBit p then 0 else aS A p) p)) (nI p) S
  | 0, p, f + 1, h1, h2 => by
    have hn := hw.1
    unfold wp_X1_allSorrow_4
    rw [hR.1]
    refine pk_le (aN A) p (fun _ => ?_) (fun z => absurd z (by omega))
    rw [show p = aN A by omega]
    exact hK
  | m + 1, p, f + 1, h1, h2 => by
    have hn := hw.1
    unfold wp_X1_allSorrow_4
    rw [hR.1]
    refine pk_le (aN A) p (fun z => absurd z (by omega)) (fun _ => ?_)
    have ih := c_allSorrow_4 hR hw hK m (p + 1) f (by omega) (by omega)
    rw [fb_sm_succ] at ih
    refine c_waitsN hR.1 hn hR.2.1 hw.g31 (by omega) (fun hb => ?_) (fun hb => ?_)
    · refine ⟨fun z => absurd z (by decide), fun _ => ⟨vp_in_nI (by omega) (by decide), nm_e (nm_r (nI_1 p) ?_)⟩⟩
      rw [nI_clamp (by omega), hR.2.2.2.2.2.2.2.1 p (by omega), nI_add]
      rw [if_neg (by rw [hb]; decide)] at ih
      exact ih
    · refine ⟨fun _ => nm_r (nI_1 p) ?_, fun z => absurd rfl z⟩
      rw [if_pos hb] at ih
      exact ih
theorem c_allSorrow {K : Int32 → tq_St → Prop} (hR : RC S o A) (hw : wfE A) (hK : K (nI (sorF A)) S) : wp_X1_allSorrow o S K :=
  c_allSorrow_4 hR hw hK (aN A) 0 2000 (by omega) (by have := hw.1; omega)
theorem zb_never {w : Nat} (h : w ≤ 1000) : nI w - 1 = -1 ↔ w = 0 := by
  have h1 : ∀ w, w ≤ 1000 → (nI w - 1 = -1 ↔ w = 0) := by decide +kernel
  exact h1 w h
def wepF (A : aE) : Nat := fb_ct (fun p => decide (aW A p ≠ 0)) (aN A)
theorem c_everWept_4 {K : Int32 → tq_St → Prop} (hR : RC S o A) (hw : wfE A) (hK : K (nI (wepF A)) S) : ∀ (m p f : Nat), p + m = aN A → m < f → wp_X1_everWept_4 o K f (nI (fb_ct (fun p => decide (aW A p ≠ 0)) p)) (nI p) S
  | 0, p, f + 1, h1, h2 => by
    have hn := hw.1
    unfold wp_X1_everWept_4
    rw [hR.1]
    refine pk_le (aN A) p (fun _ => ?_) (fun z => absurd z (by omega))
    rw [show p = aN A by omega]
    exact hK
  | m + 1, p, f + 1, h1, h2 => by
    have hn := hw.1
    unfold wp_X1_everWept_4
    rw [hR.1]
    refine pk_le (aN A) p (fun z => absurd z (by omega)) (fun _ => ?_)
    have ih := c_everWept_4 hR hw hK m (p + 1) f (by omega) (by omega)
    rw [fb_ct_succ] at ih
    rw [nI_clamp (by omega), hR.2.2.2.2.2.2.2.2.1 p (by omega), zb_never (hw.2.2.2.1 p)]
    refine ⟨vp_in_nI (by omega) (by decide), fun z => nm_r (nI_1 p) ?_, fun z => nm_r (nI_1 _) (nm_r (nI_1 p) ?_)⟩
    · rw [if_neg (by simp [z])] at ih
      exact ih
    · rw [if_pos (by simp [z])] at ih
      exact ih
theorem c_everWept {K : Int32 → tq_St → Prop} (hR : RC S o A) (hw : wfE A) (hK : K (nI (wepF A)) S) : wp_X1_everWept o S K :=
  c_everWept_4 hR hw hK (aN A) 0 2000 (by omega) (by have := hw.1; omega)
def trmF (A : aE) : Nat := fb_ct (fun i => decide (aA A i = 6)) (aC A)
theorem c_trams_4 {K : Int32 → tq_St → Prop} (hR : RC S o A) (hw : wfE A) (hK : K (nI (trmF A)) S) : ∀ (m i f : Nat), i + m = aC A → m < f → wp_X1_tramsPlanned_4 o K f (nI (fb_ct (fun i => decide (aA A i = 6)) i)) (nI i) S
  | 0, i, f + 1, h1, h2 => by
    have hc := hw.2.2.2.2.2.2.2.2.1
    unfold wp_X1_tramsPlanned_4
    rw [hR.2.2.2.2.2.1]
    refine pk_le (aC A) i (fun _ => ?_) (fun z => absurd z (by omega))
    rw [show i = aC A by omega]
    exact hK
  | m + 1, i, f + 1, h1, h2 => by
    have hn := hw.1
    have hc := hw.2.2.2.2.2.2.2.2.1
    have ho := hw.2.2.2.2.2.2.2.2.2 i (by omega)
    unfold wp_X1_tramsPlanned_4
    rw [hR.2.2.2.2.2.1]
    refine pk_le (aC A) i (fun z => absurd z (by omega)) (fun _ => ?_)
    have ih := c_trams_4 hR hw hK m (i + 1) f (by omega) (by omega)
    rw [fb_ct_succ] at ih
    have e6 : (6 : Int32) = nI 6 := rfl
    rw [nI_clamp (by omega), hR.2.2.2.2.2.2.2.2.2 i (by omega), e6, nI_eq (by omega) (by decide)]
    refine ⟨vp_in_nI (by omega) (by decide), fun z => nm_r (nI_1 i) ?_, fun z => nm_r (nI_1 _) (nm_r (nI_1 i) ?_)⟩
    · rw [if_neg (by simp [z])] at ih
      exact ih
    · rw [if_pos (by simp [z])] at ih
      exact ih
theorem c_trams {K : Int32 → tq_St → Prop} (hR : RC S o A) (hw : wfE A) (hK : K (nI (trmF A)) S) : wp_X1_tramsPlanned o S K :=
  c_trams_4 hR hw hK (aC A) 0 2000 (by omega) (by have := hw.2.2.2.2.2.2.2.2.1; omega)
def oW (w : Nat) : Int32 := if w = 0 then -4 else nI w - 1
theorem c_weptOrNone {p : Nat} {K : Int32 → tq_St → Prop} (hR : RC S o A) (hw : wfE A) (hp : p < aN A) (hK : K (oW (aW A p)) S) : wp_X1_weptOrNone o (nI p) S K := by
  have hn := hw.1
  unfold wp_X1_weptOrNone
  rw [nI_clamp (by omega), hR.2.2.2.2.2.2.2.2.1 p hp, zb_never (hw.2.2.2.1 p)]
  unfold oW at hK
  refine ⟨vp_in_nI (by omega) (by decide), fun z => ⟨vp_in_nI (by omega) (by decide), ?_⟩, fun z => ?_⟩
  · rw [if_neg z] at hK; exact hK
  · rw [if_pos z] at hK; exact hK
def wbI (n g : Nat) : Int32 := (((1 : Int32) <<< ((nI n : Int32) &&& 31)) - 1) &&& ((nI g) ^^^ (-1))
theorem c_waitingBits {K : Int32 → tq_St → Prop} (hR : RC S o A) (hK : K (wbI (aN A) (aG A)) S) : wp_X1_waitingBits o S K := by
  unfold wp_X1_waitingBits
  rw [hR.1, hR.2.1]
  exact hK
theorem c_isAct {x : Int32} {K : Int32 → tq_St → Prop} (hR : RC S o A) (hw : wfE A) (h1 : ∀ a, okA (aN A) a → x = nI a → K 1 S) (h0 : (∀ a, okA (aN A) a → x ≠ nI a) → K 0 S) : wp_X1_isAct o x S K := by
  unfold wp_X1_isAct
  refine c_isThere hR.1 hw.1 (fun j hj e => ⟨fun _ => h1 j (Or.inl hj) e, fun z => absurd z (by decide)⟩) (fun hno => ⟨fun z => absurd rfl z, fun _ => ?_⟩)
  refine ⟨fun e => h1 5 (Or.inr (Or.inl rfl)) e, fun e5 => ⟨fun e6 => h0 (fun a ha e => ?_), fun e => h1 6 (Or.inr (Or.inr rfl)) e⟩⟩
  rcases ha with ha | ha | ha
  · exact hno a ha e
  · subst ha; exact e5 e
  · subst ha; exact e6 e
end EVP
