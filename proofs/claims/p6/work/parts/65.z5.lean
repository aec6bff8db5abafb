section Z5
variable {S : tq_St} {G : aQ} {K : Int32 → tq_St → Prop}
-- BY A SEED
theorem dr_val2 (x : Int32) {n : Nat} (hn : n ≤ 5) : (((x : Int32) >>> ((16 : Int32) &&& 31)) &&& 32767) - (((x : Int32) >>> ((16 : Int32) &&& 31)) &&& 32767) / (nI n + 1) * (nI n + 1) = nI (drJ n x) := by
  rw [pk_and _ (m := 32767) 15 (by decide)]
  have h := pk_shr x ((16 : Int32) &&& 31) 16 (by decide)
  have h2 : (x >>> ((16 : Int32) &&& 31)).toBitVec.toNat % 2 ^ 15 = x.toBitVec.toNat / 65536 % 32768 := by
    have e1 : (x >>> ((16 : Int32) &&& 31)).toBitVec = x.toBitVec.sshiftRight 16 := by
      apply BitVec.toInt_inj.mp
      rw [BitVec.toInt_sshiftRight]
      exact h
    rw [e1]
    apply Nat.eq_of_testBit_eq
    intro i
    rw [show (32768 : Nat) = 2 ^ 15 by decide, show (65536 : Nat) = 2 ^ 16 by decide, Nat.testBit_mod_two_pow, Nat.testBit_mod_two_pow, Nat.testBit_div_two_pow]
    by_cases c : i < 15
    · rw [decide_eq_true c, Bool.true_and, Bool.true_and]
      show (x.toBitVec.sshiftRight 16).getLsbD i = x.toBitVec.getLsbD (i + 16)
      rw [BitVec.getLsbD_sshiftRight]
      have c1 : ¬ 32 ≤ i := by omega
      have c2 : 16 + i < 32 := by omega
      simp [c1, c2, Nat.add_comm]
      intro hh
      omega
    · rw [decide_eq_false c, Bool.false_and, Bool.false_and]
  rw [h2, nI_1]
  have hlt : x.toBitVec.toNat / 65536 % 32768 < 32768 := Nat.mod_lt _ (by decide)
  rw [pk_rem (by omega) (by omega) (by omega)]
  rfl
theorem z_drift_96 {S0 : tq_St} {N y s v5 : Int32} {rec45 : Int32 → Int32 → Int32 → Int32 → tq_St → Prop} {i : Nat} {A : aE} {t : aY} {a : Nat} (hw : wfE A) (ha : okA (aN A) a) (hR : RM S 112 A) (hT : TM S t) (hF : FT S0 S) (hi : v5 = nI i) (hrec : ∀ S', RM S' 112 (playF A a) → TM S' (t.1 ||| plW A a, t.2.1 + pcN (plW A a), t.2.2) → FT S0 S' → rec45 N y s (nI (i + 1)) S') : wp_X7_drift_96 K rec45 N y s v5 (nI a) S := by
  subst hi
  unfold wp_X7_drift_96
  refine m_acts (t := t) hR hw ha hT (fun S' a1 a2 a3 => nm_r (nI_1 i) ?_)
  exact hrec S' a1 a3 (hF.tr a2)
theorem z_drift_45 {S0 : tq_St} {n N : Nat} {y : Int32} (hn : n ≤ 5) (hN : N ≤ 60) : ∀ (m i f : Nat) (s : Int32) (A : aE) (t : aY) (S : tq_St), i + m = N → m < f → wfE A → aN A = n → RM S 112 A → TM S t → FT S0 S → (y = 0 → ∀ S', FT S0 S' → K (nI (drL n m s A t).2.2.1) S') → (¬ y = 0 → ∀ S', FT S0 S' → K (oI (nextF (drL n m s A t).1 0)) S') → wp_X7_drift_45 K f (nI N) y s (nI i) S := by
  intro m
  induction m with
  | zero =>
    intro i f s A t S h1 h2 hw hA hR hT hF hK0 hK1
    obtain ⟨f, rfl⟩ : ∃ k, f = k + 1 := ⟨f - 1, by omega⟩
    unfold wp_X7_drift_45
    refine pk_le N i (fun _ => ⟨fun z => ?_, fun z => ?_⟩) (fun z => absurd z (by omega))
    · exact m_nextOn (g := 112) (but := 0) hR hw (by decide) (by decide) (hK1 z S hF)
    · rw [hT.2.1]
      exact hK0 z S hF
  | succ m ih =>
    intro i f s A t S h1 h2 hw hA hR hT hF hK0 hK1
    obtain ⟨f, rfl⟩ : ∃ k, f = k + 1 := ⟨f - 1, by omega⟩
    rw [drL_succ] at hK0 hK1
    unfold wp_X7_drift_45
    rw [hR.1, hA]
    refine pk_le N i (fun z => absurd z (by omega)) (fun _ => ?_)
    refine nm_r (drS_eq s) ?_
    generalize drS s = s' at hK0 hK1 ⊢
    refine ⟨by rw [nI_1]; exact nI_ne0 (by omega) (by omega), nm_r (dr_val2 s' hn) ?_⟩
    have hlt : drJ n s' < n + 1 := Nat.mod_lt _ (by omega)
    have hgo : ∀ w : Nat, w = drA n s' → wp_X7_drift_96 K (wp_X7_drift_45 K f) (nI N) y s' (nI i) (nI w) S := by
      intro w e
      subst e
      exact z_drift_96 hw (by rw [hA]; exact drA_ok n _) hR hT hF rfl (fun S' a1 a2 a3 => ih (i + 1) f s' _ _ S' (by omega) (by omega) (playF_wf hw _) ((playF_same A _).1.trans hA) a1 a2 a3 hK0 hK1)
    rw [nI_eq (by omega) (by omega)]
    refine ⟨fun z => ?_, fun z => ?_⟩
    · exact hgo _ (by unfold drA; rw [if_pos (by omega)])
    · exact hgo 5 (by unfold drA; rw [if_neg (by omega)])
theorem z_drift {x y w : Int32} (hG : RZ S G) (hw : wfQ G) (hbad : (∀ n, 1 ≤ n → n ≤ 60 → y ≠ nI n) ∨ (∀ k, k ≤ 1 → w ≠ nI k) → K (-1) S) (hst : ∀ n k, 1 ≤ n → n ≤ 60 → y = nI n → k ≤ 1 → w = nI k → aN (qA G) = 0 → K (-2) S) (h0 : ∀ n, 1 ≤ n → n ≤ 60 → y = nI n → w = 0 → 0 < aN (qA G) → ∀ S', RZ S' G → Fr 28 S S' → K (nI (drL (aN (qA G)) n x (qA G) (0, 0, none)).2.2.1) S') (h1 : ∀ n, 1 ≤ n → n ≤ 60 → y = nI n → w = 1 → 0 < aN (qA G) → ∀ S', RZ S' G → Fr 28 S S' → K (oI (nextF (drL (aN (qA G)) n x (qA G) (0, 0, none)).1 0)) S') : wp_X7_drift x y w S K := by
  have hn := hw.1.1
  unfold wp_X7_drift
  refine m_in 1 60 (by decide) (by decide) (by decide) (fun n ha hb e => ⟨fun z => absurd z (by decide), fun _ => ?_⟩) (fun h => ⟨fun _ => hbad (Or.inl h), fun z => absurd rfl z⟩)
  subst e
  refine m_in 0 1 (by decide) (by decide) (by decide) (fun k _ hk e => ⟨fun _ => ?_, fun z => absurd z (by decide)⟩) (fun h => ⟨fun z => absurd rfl z, fun _ => hbad (Or.inr (fun c hc => h c (by omega) hc))⟩)
  subst e
  rw [hG.1.1]
  have e0 : (0 : Int32) = nI 0 := rfl
  refine ⟨fun z => ?_, fun z => hst n k ha hb rfl hk rfl ((nI_eq (by omega) (by decide)).mp z)⟩
  have hp : 0 < aN (qA G) := by
    rcases Nat.eq_zero_or_pos (aN (qA G)) with c | c
    · rw [c] at z; exact absurd rfl z
    · exact c
  refine m_begins (g := 0) hG.1 hw.1 (by omega) (fun S1 a1 a2 a3 => ?_)
  have hk01 : k = 0 ∨ k = 1 := by omega
  refine z_drift_45 (S0 := S) hn hb n 0 2000 x (qA G) (0, 0, none) S1 (by omega) (by omega) hw.1 rfl a1 a3 a2 (fun e S' f => h0 n ha hb rfl e hp S' (hG.fz hw f.fz) f.fr) (fun e S' f => h1 n ha hb rfl ?_ hp S' (hG.fz hw f.fz) f.fr)
  rcases hk01 with c | c
  · exact absurd (by rw [c]; rfl) e
  · rw [c]; rfl
-- SEEN
theorem RZ.oth {S' : tq_St} {G' : aQ} (h : RZ S G) (fi : ∀ k, k = 2 ∨ k = 8 ∨ k = 9 ∨ k = 28 → S'.1 28 k = S.1 28 k) (fa : ∀ k, k ≠ 21 → S'.2.1 28 k = S.2.1 28 k) {s : Nat × (Nat → Nat) × (Nat → Bool)} (hs : ZS S' s) (e : G' = vS G s) : RZ S' G' := by
  subst e
  obtain ⟨h1, h2, h3, h4, h5, h6, h7, h8, h9⟩ := h
  have fR : ∀ g A, RM S g A → RM S' g A := by
    intro g A hR
    unfold RM pg at hR ⊢
    rw [fi 2 (by omega), fa 0 (by decide), fa 1 (by decide)]
    exact hR
  refine ⟨fR _ _ h1, fun k hk => ?_, ⟨by rw [fi 8 (by omega)]; exact h3.1, fun i hi => by rw [fa 7 (by decide)]; exact h3.2 i hi⟩, by rw [fi 9 (by omega)]; exact h4, hs, fun k hk => ?_, by rw [fi 28 (by omega)]; exact h7, fun i hi => by rw [fa 16 (by decide)]; exact h8 i hi, fun i hi => by rw [fa 17 (by decide)]; exact h9 i hi⟩
  · have h2 := h2 k hk
    show ZI S' k (qI G k)
    unfold ZI at h2 ⊢
    split at h2
    · rw [fa 24 (by decide)]; exact h2
    · rw [fa 24 (by decide)]; exact ⟨h2.1, fR _ _ h2.2⟩
  · have h6 := h6 k hk
    show ZH S' k (qH G k)
    unfold ZH at h6 ⊢
    rw [fa 25 (by decide), fa 26 (by decide), fa 27 (by decide)]
    exact h6
theorem z_see {x : Int32} {b : Bool} (hG : RZ S G) (hw : wfQ G) (hbad : (∀ p, p < aN (qA G) → x ≠ nI p) → K (-1) S) (hfull : ∀ p, p < aN (qA G) → x = nI p → (qS G).1 = 6 → K (-3) S) (hok : ∀ p, p < aN (qA G) → x = nI p → (qS G).1 < 6 → ∀ S', RZ S' (seeF G p b) → Fr 28 S S' → K (nI ((qS G).1 + 1)) S') : wp_X7_see x (bI b) S K := by
  have hn := hw.1.1
  have hs := hw.2.2.2.2.1.1
  have h5 := hG.zs
  unfold wp_X7_see
  refine m_isOne hG.1.1 hn (fun p hp e => ⟨fun _ => ?_, fun z => absurd z (by decide)⟩) (fun hno => ⟨fun z => absurd rfl z, fun _ => hbad hno⟩)
  subst e
  have e6 : (6 : Int32) = nI 6 := rfl
  rw [h5.1, e6, nI_eq (by omega) (by decide)]
  refine ⟨fun hne => ?_, fun e => hfull p hp rfl e⟩
  have e2 : (2 : Int32) * nI (qS G).1 = nI (2 * (qS G).1) := pk_mul 2 _
  rw [e2, nI_clamp (by omega)]
  refine ⟨vp_in_nI (by omega) (by decide), nm_e ?_⟩
  rw [sA_1, h5.1, e2, nI_1]
  have h55 : wp_X7_see_55 K (nI (2 * (qS G).1 + 1)) (bI b) (sA S 28 21 (2 * (qS G).1) (nI p)) := by
    unfold wp_X7_see_55
    rw [nI_clamp (by omega)]
    refine ⟨vp_in_nI (by omega) (by decide), nm_e (nm_e ?_)⟩
    have e1 : (sI (sA (sA S 28 21 (2 * (qS G).1) (nI p)) 28 21 (2 * (qS G).1 + 1) (bI b)) 28 22 ((sA (sA S 28 21 (2 * (qS G).1) (nI p)) 28 21 (2 * (qS G).1 + 1) (bI b)).1 28 22 + 1)).1 28 22 = nI ((qS G).1 + 1) := by
      rw [sI_1, if_pos rfl, sA_1, sA_1, h5.1, nI_1]
    rw [e1]
    refine hok p hp rfl (by omega) _ (hG.oth (fun k hk => by rw [sI_1, if_neg (by omega)]; rfl) (fun k hk => ?_) ⟨e1, fun i hi => ⟨?_, ?_⟩⟩ rfl) (((Fr.rf.A _ _ _).A _ _ _).I _ _)
    · show (sA (sA S 28 21 (2 * (qS G).1) (nI p)) 28 21 (2 * (qS G).1 + 1) (bI b)).2.1 28 k = _
      rw [sA_nk _ _ _ _ _ hk, sA_nk _ _ _ _ _ hk]
    · have hi : i < (qS G).1 + 1 := hi
      show (sA (sA S 28 21 (2 * (qS G).1) (nI p)) 28 21 (2 * (qS G).1 + 1) (bI b)).2.1 28 21 (2 * i) = nI (un (qS G).2.1 (qS G).1 p i)
      rw [sA_at, if_neg (by omega), sA_at]
      by_cases e : i = (qS G).1
      · rw [if_pos (by omega), e, un_s]
      · rw [if_neg (by omega), un_n _ _ e]; exact (h5.2 i (by omega)).1
    · have hi : i < (qS G).1 + 1 := hi
      show (sA (sA S 28 21 (2 * (qS G).1) (nI p)) 28 21 (2 * (qS G).1 + 1) (bI b)).2.1 28 21 (2 * i + 1) = bI (un (qS G).2.2 (qS G).1 b i)
      rw [sA_at]
      by_cases e : i = (qS G).1
      · rw [if_pos (by omega), e, un_s]
      · rw [if_neg (by omega), sA_at, if_neg (by omega), un_n _ _ e]; exact (h5.2 i (by omega)).2
  cases b
  · exact ⟨fun _ => h55, fun z => absurd rfl z⟩
  · exact ⟨fun z => absurd z (by decide), fun _ => h55⟩
theorem z_forget {x : Int32} (hG : RZ S G) (hw : wfQ G) (hbad : (∀ n, n ≤ (qS G).1 → x ≠ nI n) → K (-1) S) (hok : ∀ n, n ≤ (qS G).1 → x = nI n → ∀ S', RZ S' (forgetF G n) → Fr 28 S S' → K (nI (qS G).1) S') : wp_X7_forget x S K := by
  have hs := hw.2.2.2.2.1.1
  have h5 := hG.zs
  unfold wp_X7_forget
  rw [h5.1]
  refine m_in 0 (qS G).1 (by decide) (by rw [Int32.toInt_toInt64, nI_toInt (by omega)]) (by omega) (fun n _ hn e => ⟨fun _ => nm_e (nm_e ?_), fun z => absurd z (by decide)⟩) (fun h => ⟨fun z => absurd rfl z, fun _ => hbad (fun c hc => h c (by omega) hc)⟩)
  subst e
  rw [h5.1]
  exact hok n hn rfl _ (hG.oth (fun k hk => by rw [sI_1, if_neg (by omega)]) (fun k hk => rfl) (s := (n, (qS G).2)) ⟨by rw [sI_1, if_pos rfl], fun i hi => h5.2 i (by have hi : i < n := hi; omega)⟩ rfl) (Fr.rf.I _ _)
-- IMAGES
theorem z_keep {x : Int32} (hG : RZ S G) (hw : wfQ G) (hbad : (∀ k, k ≤ 1 → x ≠ nI k) → K (-1) S) (hok : ∀ k, k ≤ 1 → x = nI k → ∀ S', RZ S' (keepF G k) → Fr 28 S S' → K (bI (qI G k).isSome) S') : wp_X7_keep x S K := by
  have hn := hw.1.1
  have hc := hw.1.2.2.2.2.2.2.2.2.1
  unfold wp_X7_keep
  refine m_in 0 1 (by decide) (by decide) (by decide) (fun k _ hk e => ⟨fun _ => ?_, fun z => absurd z (by decide)⟩) (fun h => ⟨fun z => absurd rfl z, fun _ => hbad (fun c hc => h c (by omega) hc)⟩)
  subst e
  have e28 : (28 : Int32) * (nI k + 1) = nI (28 * (k + 1)) := by rw [nI_1]; exact pk_mul 28 (k + 1)
  rw [e28]
  refine m_copies (a := 0) (b := 28 * (k + 1)) (by decide) (by omega) (by omega) hG.1 hn hc (fun S1 f1 r1 => ⟨vp_in_nI (by omega) (by decide), ?_⟩)
  rw [nI_clamp (by omega), f1.2.2.1 24 (by decide)]
  have h37 : ∀ b : Bool, b = (qI G k).isSome → wp_X7_keep_37 K (nI k) (bI b) S1 := by
    intro b eb
    unfold wp_X7_keep_37
    have en : vp_nar .boolean 1 = 1 := by decide +kernel
    rw [nI_clamp (by omega), en, eb]
    refine ⟨vp_in_nI (by omega) (by decide), nm_e (hok k hk rfl _ ?_ (f1.fr.tr (Fr.rf.A _ _ _)))⟩
    obtain ⟨h1, h2, h3, h4, h5, h6, h7, h8, h9⟩ := hG
    have fa : ∀ j, j ≠ 0 → j ≠ 24 → (sA S1 28 24 k 1).2.1 28 j = S.2.1 28 j := fun j hj hj2 => by rw [sA_nk _ _ _ _ _ hj2, f1.2.2.1 j hj]
    have fi : (sA S1 28 24 k 1).1 = S.1 := f1.1
    have fR : ∀ g A, RM S1 g A → RM (sA S1 28 24 k 1) g A := by
      intro g A hR
      unfold RM pg at hR ⊢
      rw [sA_1, sA_nk S1 28 24 k 1 (k' := 0) (by decide), sA_nk S1 28 24 k 1 (k' := 1) (by decide)]
      exact hR
    refine ⟨fR _ _ (h1.fm f1 hn hc (by omega)), fun j hj => ?_, ⟨by rw [fi]; exact h3.1, fun i hi => by rw [fa 7 (by decide) (by decide)]; exact h3.2 i hi⟩, by rw [fi]; exact h4, ⟨by rw [fi]; exact h5.1, fun i hi => by rw [fa 21 (by decide) (by decide)]; exact h5.2 i hi⟩, fun j hj => ?_, by rw [fi]; exact h7, fun i hi => by rw [fa 16 (by decide) (by decide)]; exact h8 i hi, fun i hi => by rw [fa 17 (by decide) (by decide)]; exact h9 i hi⟩
    · show ZI (sA S1 28 24 k 1) j (un (qI G) k (some (qA G)) j)
      by_cases c : j = k
      · subst c
        rw [un_s]
        exact ⟨by rw [sA_at, if_pos rfl], fR _ _ r1⟩
      · rw [un_n _ _ c]
        have h2 := h2 j hj
        unfold ZI at h2 ⊢
        split at h2
        · rw [sA_at, if_neg c, f1.2.2.1 24 (by decide)]; exact h2
        · rename_i B eB
          have hB := hw.2.1 j B eB
          rw [sA_at, if_neg c, f1.2.2.1 24 (by decide)]
          exact ⟨h2.1, fR _ _ (h2.2.fm f1 hB.1.1 hB.1.2.2.2.2.2.2.2.2.1 (by omega))⟩
    · have h6 := h6 j hj
      show ZH _ j (qH G j)
      unfold ZH at h6 ⊢
      rw [fa 25 (by decide) (by decide), fa 26 (by decide) (by decide), fa 27 (by decide) (by decide)]
      exact h6
  have hI := hG.2.1 k (by omega)
  unfold ZI at hI
  cases e : qI G k with
  | none =>
    rw [e] at hI
    rw [hI]
    exact ⟨fun _ => h37 false (by rw [e]; rfl), fun z => absurd rfl z⟩
  | some B =>
    rw [e] at hI
    rw [hI.1]
    exact ⟨fun z => absurd z (by decide), fun _ => h37 true (by rw [e]; rfl)⟩
theorem z_back {x : Int32} (hG : RZ S G) (hw : wfQ G) (hbad : (∀ k, k ≤ 1 → x ≠ nI k) → K (-1) S) (hst : ∀ k, k ≤ 1 → x = nI k → qI G k = none → K (-2) S) (hok : ∀ k B, k ≤ 1 → x = nI k → qI G k = some B → ∀ S', RZ S' (vA G B) → Fr 28 S S' → K (nI (aM B)) S') : wp_X7_back x S K := by
  unfold wp_X7_back
  refine m_in 0 1 (by decide) (by decide) (by decide) (fun k _ hk e => ⟨fun _ => ⟨by rw [e]; exact vp_in_nI (by omega) (by decide), ?_⟩, fun z => absurd z (by decide)⟩) (fun h => ⟨fun z => absurd rfl z, fun _ => hbad (fun c hc => h c (by omega) hc)⟩)
  subst e
  rw [nI_clamp (by omega)]
  have e28 : (28 : Int32) * (nI k + 1) = nI (28 * (k + 1)) := by rw [nI_1]; exact pk_mul 28 (k + 1)
  rw [e28]
  have hI := hG.2.1 k (by omega)
  unfold ZI at hI
  cases e : qI G k with
  | none =>
    rw [e] at hI
    rw [hI]
    exact ⟨fun z => absurd rfl z, fun _ => hst k hk rfl e⟩
  | some B =>
    rw [e] at hI
    rw [hI.1]
    have hB := hw.2.1 k B e
    refine ⟨fun _ => ?_, fun z => absurd z (by decide)⟩
    refine m_copies (a := 28 * (k + 1)) (b := 0) (by omega) (by decide) (by omega) hI.2 hB.1.1 hB.1.2.2.2.2.2.2.2.2.1 (fun S1 f1 r1 => ⟨vp_in_nI (n := 16) (by decide) (by decide), ?_⟩)
    have q16 : S1.2.1 28 0 (16 : Int32).toNatClampNeg = nI (aM B) := by have := r1.2.2.2.2.2.1; rwa [Nat.zero_add] at this
    rw [q16]
    exact hok k B hk rfl e S1 (hG.now hw f1 r1) f1.fr
-- SHEETS
theorem RZ.sht {S' : tq_St} {k : Nat} (hG : RZ S G) (fi : S'.1 28 = S.1 28) (fa : ∀ j, j ≠ 25 → j ≠ 26 → j ≠ 27 → S'.2.1 28 j = S.2.1 28 j) (f25 : ∀ j, j ≠ k → S'.2.1 28 25 j = S.2.1 28 25 j ∧ S'.2.1 28 26 j = S.2.1 28 26 j) (f27 : ∀ i, i < 40 * k ∨ 40 * k + 40 ≤ i → S'.2.1 28 27 i = S.2.1 28 27 i) {x : Option Nat × Nat × (Nat → Int32)} (hx : ZH S' k x) : RZ S' (vH G (un (qH G) k x)) := by
  obtain ⟨h1, h2, h3, h4, h5, h6, h7, h8, h9⟩ := hG
  have fR : ∀ g A, RM S g A → RM S' g A := by
    intro g A hR
    unfold RM pg at hR ⊢
    rw [fi, fa 0 (by decide) (by decide) (by decide), fa 1 (by decide) (by decide) (by decide)]
    exact hR
  refine ⟨fR _ _ h1, fun j hj => ?_, ⟨by rw [fi]; exact h3.1, fun i hi => by rw [fa 7 (by decide) (by decide) (by decide)]; exact h3.2 i hi⟩, by rw [fi]; exact h4, ⟨by rw [fi]; exact h5.1, fun i hi => by rw [fa 21 (by decide) (by decide) (by decide)]; exact h5.2 i hi⟩, fun j hj => ?_, by rw [fi]; exact h7, fun i hi => by rw [fa 16 (by decide) (by decide) (by decide)]; exact h8 i hi, fun i hi => by rw [fa 17 (by decide) (by decide) (by decide)]; exact h9 i hi⟩
  · have h2 := h2 j hj
    show ZI S' j (qI G j)
    unfold ZI at h2 ⊢
    split at h2
    · rw [fa 24 (by decide) (by decide) (by decide)]; exact h2
    · rw [fa 24 (by decide) (by decide) (by decide)]; exact ⟨h2.1, fR _ _ h2.2⟩
  · show ZH S' j (un (qH G) k x j)
    by_cases c : j = k
    · subst c; rw [un_s]; exact hx
    · rw [un_n _ _ c]
      have h6 := h6 j hj
      unfold ZH at h6 ⊢
      split at h6
      · rw [(f25 j c).1]; exact h6
      · refine ⟨by rw [(f25 j c).1]; exact h6.1, by rw [(f25 j c).2]; exact h6.2.1, fun i hi => ?_⟩
        rw [f27 _ (by omega)]; exact h6.2.2 i hi
theorem z_sheet_56 {S0 : tq_St} {k : Nat} (hk : k ≤ 3) (hK : ∀ S', S'.1 = S0.1 → (∀ o, o ≠ 28 → S'.2.1 o = S0.2.1 o) → (∀ j, j ≠ 27 → S'.2.1 28 j = S0.2.1 28 j) → (∀ i, i < 40 * k ∨ 40 * k + 40 ≤ i → S'.2.1 28 27 i = S0.2.1 28 27 i) → (∀ i, i < 40 → S'.2.1 28 27 (40 * k + i) = 0) → S'.2.2 = S0.2.2 → K 1 S') : ∀ (m i f : Nat) (S : tq_St), i + m = 40 → m < f → S.1 = S0.1 → (∀ o, o ≠ 28 → S.2.1 o = S0.2.1 o) → (∀ j, j ≠ 27 → S.2.1 28 j = S0.2.1 28 j) → (∀ i, i < 40 * k ∨ 40 * k + 40 ≤ i → S.2.1 28 27 i = S0.2.1 28 27 i) → (∀ j, j < i → S.2.1 28 27 (40 * k + j) = 0) → S.2.2 = S0.2.2 → wp_X7_sheet_56 K f (nI k) (nI i) S
  | 0, i, f + 1, S, h1, h2, a1, a2, a3, a4, a5, a6 => by
    have e : i = 40 := by omega
    subst e
    exact pk_le 40 40 (fun _ => hK S a1 a2 a3 a4 a5 a6) (fun z => absurd z (by omega))
  | m + 1, i, f + 1, S, h1, h2, a1, a2, a3, a4, a5, a6 => by
    unfold wp_X7_sheet_56
    have e40 : (40 : Int32) * nI k + nI i = nI (40 * k + i) := by
      have e : (40 : Int32) * nI k = nI (40 * k) := pk_mul 40 k
      rw [e, nI_add]
    rw [e40, nI_clamp (by omega)]
    refine pk_le 40 i (fun z => absurd z (by omega)) (fun _ => ⟨vp_in_nI (by omega) (by decide), nm_e (nm_r (nI_1 i) ?_)⟩)
    refine z_sheet_56 hk hK m (i + 1) f _ (by omega) (by omega) a1 (fun o ho => (sA_2n S ho).trans (a2 o ho)) (fun j hj => (sA_nk _ _ _ _ _ hj).trans (a3 j hj)) (fun j hj => ?_) (fun j hj => ?_) a6
    · rw [sA_at, if_neg (by omega)]; exact a4 j hj
    · rw [sA_at]
      by_cases e : j = i
      · rw [if_pos (by omega)]
      · rw [if_neg (by omega)]; exact a5 j (by omega)
theorem z_sheet {x y w : Int32} (hG : RZ S G) (hw : wfQ G) (hbad : (∀ k, k ≤ 3 → x ≠ nI k) ∨ (∀ l, l ≤ 2 → y ≠ nI l) ∨ ¬ w ≤ 40 → K (-1) S) (hneg : ∀ k l, k ≤ 3 → x = nI k → l ≤ 2 → y = nI l → w < 0 → K (-14) S) (hok : ∀ k l n, k ≤ 3 → x = nI k → l ≤ 2 → y = nI l → n ≤ 40 → w = nI n → ∀ S', RZ S' (sheetF G k l n) → Fr 28 S S' → K 1 S') : wp_X7_sheet x y w S K := by
  unfold wp_X7_sheet
  refine m_in 0 3 (by decide) (by decide) (by decide) (fun k _ hk e => ⟨fun z => absurd z (by decide), fun _ => ?_⟩) (fun h => ⟨fun _ => hbad (Or.inl (fun c hc => h c (by omega) hc)), fun z => absurd rfl z⟩)
  subst e
  refine m_in 0 2 (by decide) (by decide) (by decide) (fun l _ hl e => ⟨fun z => absurd z (by decide), fun _ => ?_⟩) (fun h => ⟨fun _ => hbad (Or.inr (Or.inl (fun c hc => h c (by omega) hc))), fun z => absurd rfl z⟩)
  subst e
  refine ⟨fun z => ⟨fun z2 => ⟨vp_in_nI (by omega) (by decide), nm_e ⟨vp_in_nI (by omega) (by decide), nm_e ?_⟩⟩, fun z2 => hneg k l hk rfl hl rfl (fa_of_nle z2)⟩, fun z => hbad (Or.inr (Or.inr z))⟩
  have hz : ¬ w < 0 := fun c => by
    rw [Int32.lt_iff_toInt_lt] at c
    rw [Int32.le_iff_toInt_le] at z2
    omega
  obtain ⟨n, hn, rfl⟩ := nI_of2 (n := 40) (by decide) hz z
  rw [nI_clamp (by omega)]
  refine z_sheet_56 (S0 := sA (sA S 28 25 k (nI l)) 28 26 k (nI n)) hk (fun S' a1 a2 a3 a4 a5 a6 => ?_) 40 0 2000 _ (by omega) (by omega) rfl (fun _ _ => rfl) (fun _ _ => rfl) (fun _ _ => rfl) (fun j hj => by omega) rfl
  refine hok k l n hk rfl hl rfl hn rfl S' (hG.sht (k := k) (by rw [a1]; rfl) (fun j b1 b2 b3 => ?_) (fun j hj => ⟨?_, ?_⟩) (fun i hi => ?_) ⟨?_, ?_, fun i hi => a5 i hi⟩) ⟨fun o ho => ⟨by rw [a1]; rfl, by rw [a2 o ho, sA_2n _ ho, sA_2n _ ho]⟩, a6⟩
  · rw [a3 j b3, sA_nk _ _ _ _ _ b2, sA_nk _ _ _ _ _ b1]
  · rw [a3 25 (by decide), sA_nk _ _ _ _ _ (by decide), sA_at, if_neg hj]
  · rw [a3 26 (by decide), sA_at, if_neg hj, sA_nk _ _ _ _ _ (by decide)]
  · rw [a4 i hi, sA_nk _ _ _ _ _ (by decide), sA_nk _ _ _ _ _ (by decide)]
  · rw [a3 25 (by decide), sA_nk _ _ _ _ _ (by decide), sA_at, if_pos rfl]
  · rw [a3 26 (by decide), sA_at, if_pos rfl]
theorem z_torn (hG : RZ S G) (hK : K (nI (qO G)) S) : wp_X7_torn S K := by
  unfold wp_X7_torn
  rw [hG.2.2.2.2.2.2.1]
  exact hK
end Z5
