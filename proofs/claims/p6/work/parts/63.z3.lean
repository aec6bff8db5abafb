section Z3
variable {S : tq_St} {G : aQ} {K : Int32 → tq_St → Prop}
theorem planM_0 (A : aE) : planM A 0 = planR A := goM_0 (aA A) (aC A) 0 A (0, 0, none)
theorem z_plan0 {A : aE} {g : Nat} {K : tq_St → Prop} (hR : RM S g A) (hw : wfE A) (hg : g + 28 ≤ 112 ∨ g = 140) (hK : ∀ S', RM S' 112 (planR A).1 → TM S' (planR A).2 → FT S S' → K S') : wp_X7_planGoes (nI g) 0 S K :=
  m_planGoes (but := 0) hR hw hg (by decide) (fun S' a b c => hK S' (by rw [← planM_0]; exact a) (by rw [← planM_0]; exact b) c)
theorem z_runs {x : Int32} (hG : RZ S G) (hw : wfQ G) (hbad : (∀ w, w ≤ 4 → x ≠ nI w) → K (-1) S) (h0 : x = 0 → ∀ S', RZ S' G → Fr 28 S S' → K (nI (aG (planR (qA G)).1)) S') (h1 : x = 1 → ∀ S', RZ S' G → Fr 28 S S' → K (nI (planR (qA G)).2.1) S') (h2 : x = 2 → ∀ S', RZ S' G → Fr 28 S S' → K (nI (planR (qA G)).2.2.1) S') (h3 : x = 3 → ∀ S', RZ S' G → Fr 28 S S' → K (oI (planR (qA G)).2.2.2) S') (h4 : x = 4 → ∀ S', RZ S' G → Fr 28 S S' → K (nI (sorF (planR (qA G)).1)) S') : wp_X7_runs x S K := by
  unfold wp_X7_runs
  refine m_in 0 4 (by decide) (by decide) (by decide) (fun w _ hw4 e => ⟨fun _ => ?_, fun z => absurd z (by decide)⟩) (fun h => ⟨fun z => absurd rfl z, fun _ => hbad (fun c hc => h c (by omega) hc)⟩)
  refine z_plan0 (g := 0) hG.1 hw.1 (by omega) (fun S' a1 a2 a3 => ?_)
  have hG' := hG.fz hw a3.fz
  have hF := a3.fr
  have q127 : S'.2.1 28 0 (127 : Int32).toNatClampNeg = nI (aG (planR (qA G)).1) := a1.2.2.2.2.1
  rw [q127, a2.1, a2.2.1, a2.2.2]
  refine ⟨fun c => m_sorrowOn (g := 112) a1 (planR_ok hw.1).1 (by decide) (h4 ?_ S' hG' hF), fun e => ⟨vp_in_nI (n := 127) (by decide) (by decide), h0 e S' hG' hF⟩, fun e => h1 e S' hG' hF, fun e => h2 e S' hG' hF, fun e => h3 e S' hG' hF⟩
  rw [e, nI_toInt (by omega)] at c
  rw [e, show w = 4 by omega]
  rfl
theorem z_ahead {x y : Int32} (hG : RZ S G) (hw : wfQ G) (hbad : (∀ p, p < aN (qA G) → x ≠ nI p) ∨ (∀ w, w ≤ 1 → y ≠ nI w) → K (-1) S) (h0 : ∀ p, p < aN (qA G) → x = nI p → y = 0 → ∀ S', RZ S' G → Fr 28 S S' → K (nI (aS (planR (qA G)).1 p)) S') (h1 : ∀ p, p < aN (qA G) → x = nI p → y = 1 → ∀ S', RZ S' G → Fr 28 S S' → K (oW (aW (planR (qA G)).1 p)) S') : wp_X7_ahead x y S K := by
  have hn := hw.1.1
  unfold wp_X7_ahead
  refine m_isOne hG.1.1 hn (fun p hp e => ⟨fun z => absurd z (by decide), fun _ => ?_⟩) (fun hno => ⟨fun _ => hbad (Or.inl hno), fun z => absurd rfl z⟩)
  subst e
  refine m_in 0 1 (by decide) (by decide) (by decide) (fun w _ hw1 e => ⟨fun _ => ?_, fun z => absurd z (by decide)⟩) (fun h => ⟨fun z => absurd rfl z, fun _ => hbad (Or.inr (fun c hc => h c (by omega) hc))⟩)
  subst e
  refine z_plan0 (g := 0) hG.1 hw.1 (by omega) (fun S' a1 a2 a3 => ?_)
  have hp2 : p < aN (planR (qA G)).1 := by rw [(planR_ok hw.1).2]; exact hp
  have hwp := (planR_ok hw.1).1
  have i1 : (122 : Int32) + nI p = nI (112 + 10 + p) := nI_add 122 p
  have i2 : (117 : Int32) + nI p = nI (112 + 5 + p) := nI_add 117 p
  rw [i1, i2, nI_clamp (n := 112 + 10 + p) (by omega), nI_clamp (n := 112 + 5 + p) (by omega)]
  have q1 : S'.2.1 28 0 (112 + 10 + p) = nI (aW (planR (qA G)).1 p) := a1.2.2.2.1 p hp2
  have q2 : S'.2.1 28 0 (112 + 5 + p) = nI (aS (planR (qA G)).1 p) := a1.2.2.1 p hp2
  rw [q1, q2]
  have hw01 : w = 0 ∨ w = 1 := by omega
  refine ⟨fun z => ⟨vp_in_nI (by omega) (by decide), ?_⟩, fun z => ⟨vp_in_nI (by omega) (by decide), h0 p hp rfl z S' (hG.fz hw a3.fz) a3.fr⟩⟩
  have e1 : w = 1 := by rcases hw01 with c | c; exact absurd (by rw [c]; rfl) z; exact c
  exact z_orNone (hwp.2.2.2.1 p) (h1 p hp rfl (by rw [e1]; rfl) S' (hG.fz hw a3.fz) a3.fr)
-- HOW SOON
theorem z_soon_17 {S0 : tq_St} {p : Nat} (hG0 : RZ S0 G) (hw0 : wfQ G) (hp : p < aN (qA G)) (hb : (aG (qA G)).testBit p = false) : ∀ (m i f : Nat) (A : aE) (t : aY) (S : tq_St), i + m = 10 → m < f → wfE A → aN A = aN (qA G) → aG A = aG (qA G) → RM S 112 A → TM S t → FT S0 S → (∀ S', FT S0 S' → K (oI (soonL p m i A)) S') → wp_X7_soon_17 K f (nI p) (nI i) S
  | 0, i, f + 1, A, t, S, h1, h2, hw, hN, hg, hR, hT, hF, hK => by
    unfold wp_X7_soon_17
    exact pk_lt 9 i (fun _ => hK S hF) (fun z => absurd z (by omega))
  | m + 1, i, f + 1, A, t, S, h1, h2, hw, hN, hg, hR, hT, hF, hK => by
    have hn := hw.1
    unfold wp_X7_soon_17
    refine pk_lt 9 i (fun z => absurd z (by omega)) (fun _ => ?_)
    have hG := hG0.fz hw0 hF.fz
    refine m_waits (g := 0) hG.1.2.2.2.2.1 (by decide) hw0.1.g31 (by omega) (fun _ => ⟨fun z => absurd z (by decide), fun _ => ?_⟩) (fun hb2 => by rw [hb] at hb2; cases hb2)
    refine m_nextOn (g := 112) (but := 0) hR hw (by decide) (by decide) ?_
    unfold soonL at hK
    refine ⟨fun z => ?_, fun z => ?_⟩
    · have hne : ¬ nextF A 0 = some p := fun e => z (by rw [e]; rfl)
      rw [if_neg hne] at hK
      refine m_acts (t := t) hR hw (Or.inl (by rw [hN]; exact hp)) hT (fun S2 b1 b2 b3 => nm_r (nI_1 i) ?_)
      have e : playF A p = thinkF A p := by
        unfold playF
        rw [if_neg (by omega), if_neg (by omega), if_neg (by rw [hg, hb]; decide)]
      rw [e] at b1
      exact z_soon_17 hG0 hw0 hp hb m (i + 1) f (thinkF A p) _ S2 (by omega) (by omega) (thinkF_wf hw p).1 hN hg b1 b3 (hF.tr b2) hK
    · have he : nextF A 0 = some p := by
        cases e : nextF A 0 with
        | none => rw [e] at z; exact absurd z.symm (oI_ne (by omega))
        | some q =>
          rw [e] at z
          have hq := (next_lt e).1
          have : q = p := (nI_eq (by omega) (by omega)).mp z
          rw [this]
      rw [if_pos he] at hK
      exact hK S hF
theorem z_soon {x : Int32} (hG : RZ S G) (hw : wfQ G) (hbad : (∀ p, p < aN (qA G) → x ≠ nI p) → K (-1) S) (hst : ∀ p, p < aN (qA G) → x = nI p → (aG (qA G)).testBit p = true → ∀ S', RZ S' G → Fr 28 S S' → K (-4) S') (hok : ∀ p, p < aN (qA G) → x = nI p → (aG (qA G)).testBit p = false → ∀ S', RZ S' G → Fr 28 S S' → K (oI (soonL p 10 0 (qA G))) S') : wp_X7_soon x S K := by
  have hn := hw.1.1
  unfold wp_X7_soon
  refine m_isOne hG.1.1 hn (fun p hp e => ⟨fun _ => ?_, fun z => absurd z (by decide)⟩) (fun hno => ⟨fun z => absurd rfl z, fun _ => hbad hno⟩)
  subst e
  refine m_begins (g := 0) hG.1 hw.1 (by omega) (fun S1 a1 a2 a3 => ?_)
  have hG1 := hG.fz hw a2.fz
  cases hb : (aG (qA G)).testBit p
  · exact z_soon_17 hG hw hp hb 10 0 2000 (qA G) _ S1 (by omega) (by omega) hw.1 rfl rfl a1 a3 a2 (fun S' f => hok p hp rfl hb S' (hG.fz hw f.fz) f.fr)
  · show wp_X7_soon_17 K (1999 + 1) (nI p) (nI 0) S1
    unfold wp_X7_soon_17
    refine pk_lt 9 0 (fun z => absurd z (by omega)) (fun _ => ?_)
    refine m_waits (g := 0) hG1.1.2.2.2.2.1 (by decide) hw.1.g31 (by omega) (fun hb2 => by rw [hb] at hb2; cases hb2) (fun _ => ⟨fun _ => hst p hp rfl hb S1 hG1 a2.fr, fun z => absurd rfl z⟩)
-- ROOM ENOUGH
theorem FZ.a {T : tq_St} (h : FZ S T) {i : Nat} (hi : 84 ≤ i) (v : Int32) : FZ S (sA T 28 0 i v) :=
  h.tr ⟨Fr.rf.A _ _ _, fun k hk => rfl, fun k a _ _ => sA_nk _ _ _ _ _ a, fun j hj => by rw [pg_at, if_neg (by omega)]⟩
theorem z_enough_2 {S0 : tq_St} (hG0 : RZ S0 G) (hw : wfQ G) : ∀ (m v f : Nat) (S : tq_St), v + m = 6 → 1 ≤ v → m < f → FZ S0 S → (∀ S', FZ S0 S' → K (oI (enoL (qA G) m v)) S') → wp_X7_enough_2 K f (nI v) S
  | 0, v, f + 1, S, h1, h1b, h2, hF, hK => by
    unfold wp_X7_enough_2
    exact pk_lt 5 v (fun _ => hK S hF) (fun z => absurd z (by omega))
  | m + 1, v, f + 1, S, h1, h1b, h2, hF, hK => by
    have hn := hw.1.1
    have hc := hw.1.2.2.2.2.2.2.2.2.1
    unfold wp_X7_enough_2
    refine pk_lt 5 v (fun z => absurd z (by omega)) (fun _ => ?_)
    have hG := hG0.fz hw hF
    refine m_copies (a := 0) (b := 140) (by decide) (by decide) (by omega) hG.1 hn hc (fun S1 f1 r1 => ⟨vp_in_nI (n := 157) (by decide) (by decide), nm_e ?_⟩)
    have hw2 := uR_wf hw.1 (v := v) (by omega)
    have r2 : RM (sA S1 28 0 (140 + 17) (nI v - 2)) 140 (uR (qA G) v) := r1.n hn hc (j := 17) (by omega) rfl rfl rfl rfl rfl rfl rfl rfl rfl rfl
    refine z_plan0 (g := 140) r2 hw2 (by omega) (fun S2 b1 b2 b3 => ?_)
    have hF2 : FZ S0 S2 := ((hF.tr (f1.fz (by decide))).a (by decide) _).tr b3.fz
    refine m_waitingOn (g := 112) b1 (by decide) ?_
    rw [(planR_ok hw2).2]
    unfold enoL at hK
    refine ⟨fun z => nm_r (nI_1 v) ?_, fun z => ?_⟩
    · rw [if_neg z] at hK
      exact z_enough_2 hG0 hw m (v + 1) f S2 (by omega) (by omega) (by omega) hF2 hK
    · rw [if_pos z] at hK
      exact hK S2 hF2
theorem z_enough (hG : RZ S G) (hw : wfQ G) (hok : ∀ S', RZ S' G → Fr 28 S S' → K (oI (enoL (qA G) 5 1)) S') : wp_X7_enough S K :=
  z_enough_2 hG hw 5 1 2000 S (by omega) (by omega) (by omega) FZ.rf (fun S' f => hok S' (hG.fz hw f) f.1)
-- TWO ACTS CHANGED
theorem RM.sw {S : tq_St} {g : Nat} {A : aE} (h : RM S g A) (hn : aN A ≤ 5) (hc : aC A ≤ 8) {i j : Nat} (hi : i < aC A) (hj : j < aC A) : RM (sA (sA S 28 0 (g + 19 + i) (nI (aA A j))) 28 0 (g + 19 + j) (nI (aA A i))) g (swpA A i j) := by
  obtain ⟨h1, h2, h3, h4, h5, h6, h7, h8, h9, h10, h11⟩ := h
  refine ⟨h1, fun q hq => ?_, fun q hq => ?_, fun q hq => ?_, ?_, ?_, ?_, ?_, ?_, fun k hk => ?_, fun k hk => ?_⟩
  · have hq : q < aN A := hq
    rw [pg_at, if_neg (by omega), pg_at, if_neg (by omega)]; exact h2 q hq
  · have hq : q < aN A := hq
    rw [pg_at, if_neg (by omega), pg_at, if_neg (by omega)]; exact h3 q hq
  · have hq : q < aN A := hq
    rw [pg_at, if_neg (by omega), pg_at, if_neg (by omega)]; exact h4 q hq
  · rw [pg_at, if_neg (by omega), pg_at, if_neg (by omega)]; exact h5
  · rw [pg_at, if_neg (by omega), pg_at, if_neg (by omega)]; exact h6
  · rw [pg_at, if_neg (by omega), pg_at, if_neg (by omega)]; exact h7
  · rw [pg_at, if_neg (by omega), pg_at, if_neg (by omega)]; exact h8
  · rw [pg_at, if_neg (by omega), pg_at, if_neg (by omega)]; exact h9
  · have hk : k < aC A := hk
    show _ = nI (un (un (aA A) i (aA A j)) j (aA A i) k)
    rw [pg_at, pg_at]
    by_cases e : k = j
    · rw [if_pos (by omega), e, un_s]
    · rw [if_neg (by omega), un_n _ _ e]
      by_cases e2 : k = i
      · rw [if_pos (by omega), e2, un_s]
      · rw [if_neg (by omega), un_n _ _ e2]; exact h10 k hk
  · rw [sA_nk _ _ _ _ _ (by decide), sA_nk _ _ _ _ _ (by decide)]; exact h11 k hk
theorem z_goneThen {A : aE} (hR : RM S 112 A) (hw : wfE A) (hK : K (nI (pcN (aG A))) S) : wp_X7_goneThen S K := by
  have hgl := hw.gl
  have q : S.2.1 28 0 (127 : Int32).toNatClampNeg = nI (aG A) := hR.2.2.2.2.1
  unfold wp_X7_goneThen
  rw [q]
  exact ⟨vp_in_nI (n := 127) (by decide) (by decide), m_bitsOf (by omega) hK⟩
theorem chg_sw {A : aE} {i j : Nat} (hi : i < aC A) (hj : j < aC A) : chgA A i j = swpA A i j := by
  unfold chgA
  rw [if_pos ⟨hi, hj⟩]
theorem z_swap_47 {S0 : tq_St} {y : Int32} {rec29 : Int32 → Int32 → Int32 → Int32 → tq_St → Prop} (hG0 : RZ S0 G) (hw : wfQ G) {i : Nat} (hi : i < aC (qA G)) : ∀ (m j f b : Nat) (w : Int32) (S : tq_St), j + m = aC (qA G) → i < j → m < f → b ≤ 31 → FZ S0 S → (∀ S', FZ S0 S' → (sw2 (qA G) i m j b w).1 ≤ 31 → rec29 y (nI (sw2 (qA G) i m j b w).1) (sw2 (qA G) i m j b w).2 (nI (i + 1)) S') → wp_X7_swap_47 K rec29 f y (nI b) w (nI i) (nI j) S
  | 0, j, f + 1, b, w, S, h1, hij, h2, hb, hF, hK => by
    have hc := hw.1.2.2.2.2.2.2.2.2.1
    have hG := hG0.fz hw hF
    have q27 : S.2.1 28 0 (27 : Int32).toNatClampNeg = nI (aC (qA G)) := by have := hG.1.2.2.2.2.2.2.2.2.1; rwa [Nat.zero_add] at this
    unfold wp_X7_swap_47
    rw [q27]
    exact ⟨vp_in_nI (n := 27) (by decide) (by decide), pk_le (aC (qA G)) j (fun _ => nm_r (nI_1 i) (hK S hF hb)) (fun z => absurd z (by omega))⟩
  | m + 1, j, f + 1, b, w, S, h1, hij, h2, hb, hF, hK => by
    have hn := hw.1.1
    have hc := hw.1.2.2.2.2.2.2.2.2.1
    have hG := hG0.fz hw hF
    have q27 : S.2.1 28 0 (27 : Int32).toNatClampNeg = nI (aC (qA G)) := by have := hG.1.2.2.2.2.2.2.2.2.1; rwa [Nat.zero_add] at this
    unfold wp_X7_swap_47
    rw [q27]
    refine ⟨vp_in_nI (n := 27) (by decide) (by decide), pk_le (aC (qA G)) j (fun z => absurd z (by omega)) (fun hj => ?_)⟩
    refine m_copies (a := 0) (b := 140) (by decide) (by decide) (by omega) hG.1 hn hc (fun S1 f1 r1 => ?_)
    have hF1 := hF.tr (f1.fz (by decide))
    have hG1 := hG0.fz hw hF1
    have i1 : (19 : Int32) + nI j = nI (19 + j) := nI_add 19 j
    have i2 : (159 : Int32) + nI i = nI (140 + 19 + i) := nI_add 159 i
    have i3 : (19 : Int32) + nI i = nI (19 + i) := nI_add 19 i
    have i4 : (159 : Int32) + nI j = nI (140 + 19 + j) := nI_add 159 j
    rw [i1, i2, i3, i4, nI_clamp (n := 19 + j) (by omega), nI_clamp (n := 140 + 19 + i) (by omega), nI_clamp (n := 19 + i) (by omega), nI_clamp (n := 140 + 19 + j) (by omega)]
    have q1 : S1.2.1 28 0 (19 + j) = nI (aA (qA G) j) := by have := hG1.1.2.2.2.2.2.2.2.2.2.1 j hj; rwa [Nat.zero_add] at this
    have q2 : (sA S1 28 0 (140 + 19 + i) (nI (aA (qA G) j))).2.1 28 0 (19 + i) = nI (aA (qA G) i) := by
      rw [sA_at, if_neg (by omega)]
      have := hG1.1.2.2.2.2.2.2.2.2.2.1 i hi; rwa [Nat.zero_add] at this
    rw [q1]
    refine ⟨vp_in_nI (by omega) (by decide), vp_in_nI (by omega) (by decide), nm_e ⟨vp_in_nI (by omega) (by decide), vp_in_nI (by omega) (by decide), nm_e ?_⟩⟩
    rw [q2]
    have hwc := swpA_wf hw.1 hi hj
    refine z_plan0 (g := 140) (r1.sw hn hc hi hj) hwc (by omega) (fun S2 b1 b2 b3 => ?_)
    have hF2 : FZ S0 S2 := ((hF1.a (by omega) _).a (by omega) _).tr b3.fz
    have hwp := (planR_ok hwc).1
    have hgc : pcN (aG (planR (swpA (qA G) i j)).1) = gcF (qA G) i j := by unfold gcF; rw [chg_sw hi hj]
    have hg31 : gcF (qA G) i j ≤ 31 := pcN_le _
    refine z_goneThen b1 hwp ?_
    rw [hgc]
    have e10 : (10 : Int32) * nI i + nI j = nI (10 * i + j) := by
      have e10 : (10 : Int32) = nI 10 := rfl
      rw [e10, pk_mul, nI_add]
    unfold sw2 at hK
    have h137 : ∀ w', (b < gcF (qA G) i j → w' = nI (10 * i + j)) → (¬ b < gcF (qA G) i j → w' = w) → wp_X7_swap_137 K (wp_X7_swap_47 K rec29 f) rec29 y (nI b) (nI i) (nI j) w' S2 := by
      intro w' hyes hno
      unfold wp_X7_swap_137
      refine z_goneThen b1 hwp ?_
      rw [hgc]
      refine pk_le (gcF (qA G) i j) b (fun z => nm_r (nI_1 j) ?_) (fun z => ?_)
      · rw [if_neg (by omega)] at hK
        rw [hno (by omega)]
        exact z_swap_47 hG0 hw hi m (j + 1) f b w S2 (by omega) (by omega) (by omega) hb hF2 hK
      · refine z_goneThen b1 hwp ?_
        rw [hgc]
        refine nm_r (nI_1 j) ?_
        rw [if_pos z] at hK
        rw [hyes z]
        exact z_swap_47 hG0 hw hi m (j + 1) f _ _ S2 (by omega) (by omega) (by omega) hg31 hF2 hK
    refine pk_le (gcF (qA G) i j) b (fun z => h137 w (fun c => by omega) (fun _ => rfl)) (fun z => ?_)
    rw [e10]
    exact h137 _ (fun _ => rfl) (fun c => absurd z c)
theorem z_swap_29 {S0 : tq_St} {y : Int32} (hG0 : RZ S0 G) (hw : wfQ G) : ∀ (m i f b : Nat) (w : Int32) (S : tq_St), i + m = aC (qA G) → m < f → b ≤ 31 → FZ S0 S → (∀ S', FZ S0 S' → K (swR y (sw1 (qA G) m i b w)) S') → wp_X7_swap_29 K f y (nI b) w (nI i) S
  | 0, i, f + 1, b, w, S, h1, h2, hb, hF, hK => by
    have hc := hw.1.2.2.2.2.2.2.2.2.1
    have hG := hG0.fz hw hF
    have q27 : S.2.1 28 0 (27 : Int32).toNatClampNeg = nI (aC (qA G)) := by have := hG.1.2.2.2.2.2.2.2.2.1; rwa [Nat.zero_add] at this
    unfold wp_X7_swap_29
    rw [q27]
    have h9 := hK S hF
    unfold swR sw1 at h9
    refine ⟨vp_in_nI (n := 27) (by decide) (by decide), pk_le (aC (qA G)) i (fun _ => ⟨fun z => ?_, fun z => ⟨fun z2 => ?_, fun z2 => ?_⟩⟩) (fun z => absurd z (by omega))⟩
    · by_cases c : y = 0
      · rw [if_pos c] at h9; exact h9
      · rw [if_neg c, if_pos z] at h9; exact h9
    · rw [if_neg z2, if_neg z] at h9; exact h9
    · rw [if_pos z2] at h9; exact h9
  | m + 1, i, f + 1, b, w, S, h1, h2, hb, hF, hK => by
    have hc := hw.1.2.2.2.2.2.2.2.2.1
    have hG := hG0.fz hw hF
    have q27 : S.2.1 28 0 (27 : Int32).toNatClampNeg = nI (aC (qA G)) := by have := hG.1.2.2.2.2.2.2.2.2.1; rwa [Nat.zero_add] at this
    unfold wp_X7_swap_29
    rw [q27]
    refine ⟨vp_in_nI (n := 27) (by decide) (by decide), pk_le (aC (qA G)) i (fun z => absurd z (by omega)) (fun hi => nm_r (nI_1 i) ?_)⟩
    refine z_swap_47 hG0 hw hi (aC (qA G) - (i + 1)) (i + 1) 2000 b w S (by omega) (by omega) (by omega) hb hF (fun S' f' hb' => ?_)
    exact z_swap_29 hG0 hw m (i + 1) f _ _ S' (by omega) (by omega) hb' f' hK
theorem un_self {α : Type} (f : Nat → α) (k : Nat) : un f k (f k) = f := by
  funext j
  by_cases e : j = k
  · rw [e, un_s]
  · rw [un_n _ _ e]
theorem gc00 (A : aE) : gcF A 0 0 = pcN (aG (planR A).1) := by
  unfold gcF chgA
  split
  · unfold swpA
    rw [un_self, un_self]
  · rfl
theorem z_swap {y : Int32} (hG : RZ S G) (hw : wfQ G) (hbad : (∀ w, w ≤ 1 → y ≠ nI w) → K (-1) S) (hok : ∀ w, w ≤ 1 → y = nI w → ∀ S', RZ S' G → Fr 28 S S' → K (swR y (sw1 (qA G) (aC (qA G)) 0 (gcF (qA G) 0 0) (-4))) S') : wp_X7_swap y S K := by
  have hc := hw.1.2.2.2.2.2.2.2.2.1
  unfold wp_X7_swap
  refine m_in 0 1 (by decide) (by decide) (by decide) (fun w _ hw1 e => ⟨fun _ => ?_, fun z => absurd z (by decide)⟩) (fun h => ⟨fun z => absurd rfl z, fun _ => hbad (fun c hc => h c (by omega) hc)⟩)
  refine z_plan0 (g := 0) hG.1 hw.1 (by omega) (fun S1 a1 a2 a3 => ?_)
  refine z_goneThen a1 (planR_ok hw.1).1 ?_
  rw [← gc00]
  have hp : gcF (qA G) 0 0 ≤ 31 := pcN_le _
  exact z_swap_29 hG hw (aC (qA G)) 0 2000 _ _ S1 (by omega) (by omega) hp a3.fz (fun S' f => hok w hw1 e S' (hG.fz hw f) f.1)
end Z3
