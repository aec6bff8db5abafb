section Z7
variable {S : tq_St} {G : aQ} {K : Int32 → tq_St → Prop} {KL : Int64 → tq_St → Prop}
theorem zi_val {k : Nat} (hG : RZ S G) (hk : k < 2) : S.2.1 28 24 k = bI (qI G k).isSome := by
  have h := hG.2.1 k hk
  unfold ZI at h
  cases e : qI G k with
  | none => rw [e] at h; exact h
  | some B => rw [e] at h; exact h.1
theorem z_count_46 {x : Int32} {w : Nat} (hG : RZ S G) (hw : wfQ G) (hbad : (∀ w, w ≤ 5 → x ≠ nI w) → K (-1) S) (h0 : x = 0 → K (nI (qS G).1) S) (h1 : x = 1 → K (nImg G) S) (h2 : x = 2 → K (nI (qT G).1) S) (h3 : x = 3 → K (match (qH G 0).1 with | none => -4 | some _ => nI (qH G 0).2.1) S) (h4 : x = 4 → K (nI w) S) (h5 : x = 5 → K (nI (trmF (qA G))) S) : ∀ (m i f : Nat), i + m = aC (qA G) → m < f → wp_X7_count_46 K f x (nI w) (nI (fb_ct (fun i => decide (aA (qA G) i = 6)) i)) (nI i) S
  | 0, i, f + 1, g1, g2 => by
    have hc := hw.1.2.2.2.2.2.2.2.2.1
    have q27 : S.2.1 28 0 (27 : Int32).toNatClampNeg = nI (aC (qA G)) := by have := hG.1.2.2.2.2.2.2.2.2.1; rwa [Nat.zero_add] at this
    unfold wp_X7_count_46
    rw [q27]
    refine ⟨vp_in_nI (n := 27) (by decide) (by decide), pk_le (aC (qA G)) i (fun _ => ?_) (fun z => absurd z (by omega))⟩
    rw [hG.2.2.1.1, hG.zs.1, show i = aC (qA G) by omega]
    have c0 : (0 : Int32).toNatClampNeg = 0 := by decide
    have c1 : (1 : Int32).toNatClampNeg = 1 := by decide
    refine ⟨fun z => hbad (fun w hw e => ?_), h0, fun e => ?_, h2, fun e => ?_, h4, h5⟩
    · rw [e, nI_toInt (by omega)] at z
      omega
    · have h1 := h1 e
      unfold nImg at h1
      unfold wp_X7_count_147
      rw [c0, c1, zi_val hG (k := 0) (by decide), zi_val hG (k := 1) (by decide)]
      have i0 : vp_in 0 2 := vp_in_nI (n := 0) (by decide) (by decide)
      have i1 : vp_in 1 2 := vp_in_nI (n := 1) (by decide) (by decide)
      refine ⟨i0, ?_⟩
      cases e0 : (qI G 0).isSome <;> cases e1 : (qI G 1).isSome <;> rw [e0, e1] at h1
      · exact ⟨fun _ => ⟨i1, fun _ => h1, fun z => absurd rfl z⟩, fun z => absurd rfl z⟩
      · exact ⟨fun _ => ⟨i1, fun z => absurd z (by decide), fun _ => h1⟩, fun z => absurd rfl z⟩
      · exact ⟨fun z => absurd z (by decide), fun _ => ⟨i1, fun _ => h1, fun z => absurd rfl z⟩⟩
      · exact ⟨fun z => absurd z (by decide), fun _ => ⟨i1, fun z => absurd z (by decide), fun _ => h1⟩⟩
    · have h3 := h3 e
      have hC := hG.2.2.2.2.2.1 0 (by decide)
      unfold ZH at hC
      have i0 : vp_in 0 4 := vp_in_nI (n := 0) (by decide) (by decide)
      rw [c0]
      refine ⟨i0, ?_⟩
      cases el : (qH G 0).1 with
      | none =>
        rw [el] at hC h3
        rw [hC]
        exact ⟨fun z => absurd rfl z, fun _ => h3⟩
      | some l =>
        have hl := hw.2.2.2.2.2.1 0 l el
        rw [el] at hC h3
        rw [hC.1, hC.2.1]
        exact ⟨fun _ => ⟨i0, h3⟩, fun z => absurd z (oI_ne (by omega))⟩
  | m + 1, i, f + 1, g1, g2 => by
    have hn := hw.1.1
    have hc := hw.1.2.2.2.2.2.2.2.2.1
    have q27 : S.2.1 28 0 (27 : Int32).toNatClampNeg = nI (aC (qA G)) := by have := hG.1.2.2.2.2.2.2.2.2.1; rwa [Nat.zero_add] at this
    have ih := z_count_46 hG hw hbad h0 h1 h2 h3 h4 h5 m (i + 1) f (by omega) (by omega)
    rw [fb_ct_succ] at ih
    have ho := hw.1.2.2.2.2.2.2.2.2.2 i (by omega)
    unfold wp_X7_count_46
    rw [q27]
    refine ⟨vp_in_nI (n := 27) (by decide) (by decide), pk_le (aC (qA G)) i (fun z => absurd z (by omega)) (fun hi => ?_)⟩
    have i19 : (19 : Int32) + nI i = nI (19 + i) := nI_add 19 i
    have q : S.2.1 28 0 (19 + i) = nI (aA (qA G) i) := by have := hG.1.2.2.2.2.2.2.2.2.2.1 i hi; rwa [Nat.zero_add] at this
    have e6 : (6 : Int32) = nI 6 := rfl
    rw [i19, nI_clamp (by omega), q, e6, nI_eq (by omega) (by decide)]
    refine ⟨vp_in_nI (by omega) (by decide), fun z => ?_, fun z => ?_⟩
    · unfold wp_X7_count_79
      rw [if_neg (by simp [z])] at ih
      exact nm_r (nI_add _ 0) (nm_r (nI_1 i) ih)
    · unfold wp_X7_count_79
      rw [if_pos (by simp [z])] at ih
      exact nm_r (nI_add _ 1) (nm_r (nI_1 i) ih)
theorem z_count_7 {x : Int32} (hG : RZ S G) (hw : wfQ G) (hK : wp_X7_count_46 K 2000 x (nI (wepF (qA G))) 0 0 S) : ∀ (m p f : Nat), p + m = aN (qA G) → m < f → wp_X7_count_7 K f x (nI (fb_ct (fun p => decide (aW (qA G) p ≠ 0)) p)) 0 (nI p) S
  | 0, p, f + 1, g1, g2 => by
    have hn := hw.1.1
    unfold wp_X7_count_7
    rw [hG.1.1]
    refine pk_le (aN (qA G)) p (fun _ => ?_) (fun z => absurd z (by omega))
    rw [show p = aN (qA G) by omega]
    exact hK
  | m + 1, p, f + 1, g1, g2 => by
    have hn := hw.1.1
    have ih := z_count_7 hG hw hK m (p + 1) f (by omega) (by omega)
    rw [fb_ct_succ] at ih
    have hW := hw.1.2.2.2.1 p
    unfold wp_X7_count_7
    rw [hG.1.1]
    refine pk_le (aN (qA G)) p (fun z => absurd z (by omega)) (fun hp => ?_)
    have i10 : (10 : Int32) + nI p = nI (10 + p) := nI_add 10 p
    have q : S.2.1 28 0 (10 + p) = nI (aW (qA G) p) := by have := hG.1.2.2.2.1 p hp; rwa [Nat.zero_add] at this
    rw [i10, nI_clamp (by omega), q]
    refine ⟨vp_in_nI (by omega) (by decide), pk_le (aW (qA G) p) 0 (fun z => ?_) (fun z => ?_)⟩
    · unfold wp_X7_count_35
      rw [if_neg (by simp; omega)] at ih
      exact nm_r (nI_add _ 0) (nm_r (nI_1 p) ih)
    · unfold wp_X7_count_35
      rw [if_pos (by simp; omega)] at ih
      exact nm_r (nI_add _ 1) (nm_r (nI_1 p) ih)
theorem z_count {x : Int32} (hG : RZ S G) (hw : wfQ G) (hbad : (∀ w, w ≤ 5 → x ≠ nI w) → K (-1) S) (h0 : x = 0 → K (nI (qS G).1) S) (h1 : x = 1 → K (nImg G) S) (h2 : x = 2 → K (nI (qT G).1) S) (h3 : x = 3 → K (match (qH G 0).1 with | none => -4 | some _ => nI (qH G 0).2.1) S) (h4 : x = 4 → K (nI (wepF (qA G))) S) (h5 : x = 5 → K (nI (trmF (qA G))) S) : wp_X7_count x S K := by
  unfold wp_X7_count
  refine z_count_7 hG hw ?_ (aN (qA G)) 0 2000 (by omega) (by have := hw.1.1; omega)
  exact z_count_46 hG hw hbad h0 h1 h2 h3 h4 h5 (aC (qA G)) 0 2000 (by omega) (by have := hw.1.2.2.2.2.2.2.2.2.1; omega)
-- ROWS OF ACTS
theorem m_power_4 {b n : Nat} (hb : b ≤ 6) (hn : n ≤ 4) (hK : K (nI (b ^ n)) S) : ∀ (m i f : Nat), i + m = n → m < f → wp_X7_powerOf_4 K f (nI b) (nI n) (nI (b ^ i)) (nI i) S
  | 0, i, f + 1, h1, h2 => by
    unfold wp_X7_powerOf_4
    refine pk_le n i (fun _ => ?_) (fun z => absurd z (by omega))
    rw [show i = n by omega]
    exact hK
  | m + 1, i, f + 1, h1, h2 => by
    unfold wp_X7_powerOf_4
    refine pk_le n i (fun z => absurd z (by omega)) (fun _ => nm_r (pk_mul _ _) (nm_r (nI_1 i) ?_))
    rw [← Nat.pow_succ]
    exact m_power_4 hb hn hK m (i + 1) f (by omega) (by omega)
theorem m_power {b n : Nat} (hb : b ≤ 6) (hn : n ≤ 4) (hK : K (nI (b ^ n)) S) : wp_X7_powerOf (nI b) (nI n) S K :=
  m_power_4 hb hn hK n 0 2000 (by omega) (by omega)
theorem pow_bd {b n : Nat} (hb : b ≤ 6) (hn : n ≤ 4) : b ^ n ≤ 1296 := by
  have h1 : b ^ n ≤ 6 ^ n := Nat.pow_le_pow_left hb n
  have h2 : (6 : Nat) ^ n ≤ 6 ^ 4 := Nat.pow_le_pow_right (by decide) hn
  have h3 : (6 : Nat) ^ 4 = 1296 := by decide
  omega
def figN (c b n i : Nat) : Nat := c / b ^ (n - 1 - i) % b
theorem m_figure {c b n i : Nat} (hb : 0 < b) (hb6 : b ≤ 6) (hn : n ≤ 4) (hi : i < n) (hc : c ≤ 2000) (hK : K (nI (figN c b n i)) S) : wp_X7_figureOf (nI c) (nI b) (nI n) (nI i) S K := by
  unfold wp_X7_figureOf
  have e1 : nI n - 1 - nI i = nI (n - 1 - i) := by
    have h1 : nI n - 1 = nI (n - 1) := pk_sub (a := n) (b := 1) (by omega)
    rw [h1, pk_sub (by omega)]
  rw [e1]
  have hp := pow_bd (b := b) (n := n - 1 - i) hb6 (by omega)
  have hp0 : 0 < b ^ (n - 1 - i) := Nat.pow_pos hb
  refine m_power hb6 (by omega) ⟨nI_ne0 hp0 (by omega), nI_ne0 hb (by omega), ?_⟩
  rw [pk_div (by omega) hp0 (by omega)]
  have hq : c / b ^ (n - 1 - i) ≤ c := Nat.div_le_self _ _
  rw [pk_rem (by omega) hb (by omega)]
  exact hK
theorem z_row_8 {S0 : tq_St} {c b n N : Nat} (hb : 0 < b) (hb6 : b ≤ 6) (hn : n ≤ 4) (hc : c ≤ 2000) (hK : ∀ r S' A t, wfE A → aN A = N → RM S' 112 A → TM S' t → t.1 < 32 → FT S0 S' → K r S') : ∀ (m i f : Nat) (A : aE) (t : aY) (S : tq_St), i + m = n → m < f → wfE A → aN A = N → RM S 112 A → TM S t → t.1 < 32 → FT S0 S → wp_X7_rowGoes_8 K f (nI c) (nI b) (nI n) (nI i) S
  | 0, i, f + 1, A, t, S, h1, h2, hw, hN, hR, hT, ht, hF => by
    unfold wp_X7_rowGoes_8
    exact pk_le n i (fun _ => hK 1 S A t hw hN hR hT ht hF) (fun z => absurd z (by omega))
  | m + 1, i, f + 1, A, t, S, h1, h2, hw, hN, hR, hT, ht, hF => by
    unfold wp_X7_rowGoes_8
    refine pk_le n i (fun z => absurd z (by omega)) (fun _ => ?_)
    refine m_figure hb hb6 hn (by omega) hc ?_
    refine m_isAct hR.1 hw.1 (fun a ha e => ⟨fun _ => ?_, fun z => absurd z (by decide)⟩) (fun hno => ⟨fun z => absurd rfl z, fun _ => hK 0 S A t hw hN hR hT ht hF⟩)
    rw [e]
    refine m_acts (t := t) hR hw ha hT (fun S' a1 a2 a3 => nm_r (nI_1 i) ?_)
    exact z_row_8 hb hb6 hn hc hK m (i + 1) f _ _ S' (by omega) (by omega) (playF_wf hw _) ((playF_same A _).1.trans hN) a1 a3 (Nat.or_lt_two_pow (n := 5) ht (plW_32 hw a)) (hF.tr a2)
theorem z_row {c b n : Nat} (hG : RZ S G) (hw : wfQ G) (hb : 0 < b) (hb6 : b ≤ 6) (hn : n ≤ 4) (hc : c ≤ 2000) (hK : ∀ r S' A t, wfE A → aN A = aN (qA G) → RM S' 112 A → TM S' t → t.1 < 32 → FT S S' → K r S') : wp_X7_rowGoes (nI c) (nI b) (nI n) S K := by
  unfold wp_X7_rowGoes
  refine m_begins (g := 0) hG.1 hw.1 (by omega) (fun S1 a1 a2 a3 => ?_)
  exact z_row_8 (S0 := S) hb hb6 hn hc hK n 0 2000 (qA G) (0, 0, none) S1 (by omega) (by omega) hw.1 rfl a1 a3 (by decide) a2
theorem z_best_49 {S0 : tq_St} {n w : Nat} (hG0 : RZ S0 G) (hw : wfQ G) (hn : n ≤ 4) (hwh : w ≤ 1 ∨ (10 ≤ w ∧ w ≤ 13)) (hK : ∀ r S', FZ S0 S' → K r S') : ∀ (m c f b : Nat) (v3 v4 : Int32) (S : tq_St), c + m = 6 ^ n → m < f → b ≤ 2000 → FZ S0 S → wp_X7_best_49 K f (nI n) (nI w) v3 v4 (nI b) (nI c) S := by
  have hp := pow_bd (b := 6) (n := n) (by decide) hn
  intro m
  induction m with
  | zero =>
    intro c f b v3 v4 S h1 h2 hb hF
    obtain ⟨f, rfl⟩ : ∃ k, f = k + 1 := ⟨f - 1, by omega⟩
    have hS := fun r => hK r S hF
    unfold wp_X7_best_49
    refine m_power (b := 6) (by decide) hn (pk_le (6 ^ n) c (fun _ => ⟨fun z0 => ⟨fun z1 => ?_, fun _ => hS _⟩, fun _ => hS _⟩) (fun z => absurd z (by omega)))
    have hw10 : 10 ≤ w ∧ w ≤ 13 := by
      rcases hwh with c | c
      · rcases (by omega : w = 0 ∨ w = 1) with d | d
        · exact absurd (by rw [d]; rfl) z0
        · exact absurd (by rw [d]; rfl) z1
      · exact c
    have e10 : nI w - 10 = nI (w - 10) := pk_sub (a := w) (b := 10) hw10.1
    rw [e10]
    exact pk_le n (w - 10) (fun _ => hS _) (fun z => m_figure (b := 6) (by decide) (by decide) hn z hb (hS _))
  | succ m ih =>
    intro c f b v3 v4 S h1 h2 hb hF
    obtain ⟨f, rfl⟩ : ∃ k, f = k + 1 := ⟨f - 1, by omega⟩
    unfold wp_X7_best_49
    refine m_power (b := 6) (by decide) hn (pk_le (6 ^ n) c (fun z => absurd z (by omega)) (fun _ => ?_))
    have hG := hG0.fz hw hF
    refine z_row (b := 6) hG hw (by decide) (by decide) hn (by omega) (fun r S1 A t hwA hN hR hT ht hFT => ?_)
    have hF1 := hF.tr hFT.fz
    refine ⟨fun _ => nm_r (nI_1 c) (ih (c + 1) f b v3 v4 S1 (by omega) (by omega) hb hF1), fun _ => ?_⟩
    rw [hT.1]
    refine m_bitsOf (by omega) ?_
    have h134 : ∀ (v8 w0 : Int32) (b' : Nat), b' ≤ 2000 → wp_X7_best_134 K (wp_X7_best_49 K f) (nI n) (nI w) v4 (nI b') (nI c) v8 w0 S1 := fun v8 w0 b' hb' => ⟨fun _ => nm_r (nI_1 c) (ih (c + 1) f b' _ _ S1 (by omega) (by omega) hb' hF1), fun _ => nm_e (nm_r (nI_1 c) (ih (c + 1) f b' _ _ S1 (by omega) (by omega) hb' hF1))⟩
    have h121 : ∀ (v7 v8 : Int32) (b' : Nat), b' ≤ 2000 → wp_X7_best_121 K (wp_X7_best_49 K f) (nI n) (nI w) v3 v4 (nI c) v7 v8 (nI b') S1 := fun v7 v8 b' hb' => ⟨fun _ => h134 _ _ b' hb', fun _ => h134 _ _ b' hb'⟩
    have h107 : ∀ (v7 w0 : Int32), wp_X7_best_107 K (wp_X7_best_49 K f) (nI n) (nI w) v3 v4 (nI b) (nI c) v7 w0 S1 := fun v7 w0 => ⟨fun _ => h121 _ _ b hb, fun _ => h121 _ _ c (by omega)⟩
    exact ⟨fun _ => h107 _ 1, fun _ => ⟨fun _ => h107 _ 0, fun _ => ⟨fun _ => h107 _ 0, fun _ => h107 _ 1⟩⟩⟩
theorem z_best {x y : Int32} (hG : RZ S G) (hw : wfQ G) (hK : ∀ r S', RZ S' G → Fr 28 S S' → K r S') : wp_X7_best x y S K := by
  have hS := fun r => hK r S hG Fr.rf
  unfold wp_X7_best
  refine m_in 0 4 (by decide) (by decide) (by decide) (fun n _ hn e => ⟨fun z => absurd z (by decide), fun _ => ?_⟩) (fun h => ⟨fun _ => hS _, fun z => absurd rfl z⟩)
  subst e
  have h38 : ∀ w : Nat, y = nI w → (w ≤ 1 ∨ (10 ≤ w ∧ w ≤ 13)) → wp_X7_best_38 K (nI n) y S := by
    intro w e hwh
    subst e
    unfold wp_X7_best_38
    have hp := pow_bd (b := 6) (n := n) (by decide) hn
    exact z_best_49 hG hw hn hwh (fun r S' f => hK r S' (hG.fz hw f) f.1) (6 ^ n) 0 2000 0 _ _ S (by omega) (by omega) (by omega) FZ.rf
  refine m_in 0 1 (by decide) (by decide) (by decide) (fun w _ hw1 e => ⟨fun _ => h38 w e (Or.inl hw1), fun z => absurd z (by decide)⟩) (fun h => ⟨fun z => absurd rfl z, fun _ => ?_⟩)
  exact m_in 10 13 (by decide) (by decide) (by decide) (fun w hw1 hw2 e => ⟨fun _ => h38 w e (Or.inr ⟨hw1, hw2⟩), fun z => absurd z (by decide)⟩) (fun h => ⟨fun z => absurd rfl z, fun _ => hS _⟩)
theorem z_home_50 {S0 : tq_St} {rec42 : Int32 → Int32 → Int32 → tq_St → Prop} {n w : Nat} {v1 : Int32} (hG0 : RZ S0 G) (hw : wfQ G) (hn : n ≤ 3) (hwh : w = 0 ∨ (10 ≤ w ∧ w ≤ 12)) (hK : ∀ r S', FZ S0 S' → K r S') (hrec : ∀ S', FZ S0 S' → rec42 v1 (nI w) (nI (n + 1)) S') : ∀ (m c f : Nat) (S : tq_St), c + m = 5 ^ n → m < f → FZ S0 S → wp_X7_home_50 K rec42 f v1 (nI w) (nI n) (nI c) S := by
  have hp := pow_bd (b := 5) (n := n) (by decide) (by omega)
  intro m
  induction m with
  | zero =>
    intro c f S h1 h2 hF
    obtain ⟨f, rfl⟩ : ∃ k, f = k + 1 := ⟨f - 1, by omega⟩
    unfold wp_X7_home_50
    exact m_power (b := 5) (by decide) (by omega) (pk_le (5 ^ n) c (fun _ => nm_r (nI_1 n) (hrec S hF)) (fun z => absurd z (by omega)))
  | succ m ih =>
    intro c f S h1 h2 hF
    obtain ⟨f, rfl⟩ : ∃ k, f = k + 1 := ⟨f - 1, by omega⟩
    unfold wp_X7_home_50
    refine m_power (b := 5) (by decide) (by omega) (pk_le (5 ^ n) c (fun z => absurd z (by omega)) (fun _ => ?_))
    have hG := hG0.fz hw hF
    refine z_row (b := 5) hG hw (by decide) (by decide) (by omega) (by omega) (fun r S1 A t hwA hN hR hT ht hFT => ?_)
    have hF1 := hF.tr hFT.fz
    refine ⟨fun _ => nm_r (nI_1 c) (ih (c + 1) f S1 (by omega) (by omega) hF1), fun _ => ?_⟩
    refine m_tramOn (g := 112) hR hwA (by decide) (fun S2 b1 b2 => ?_)
    have hF2 := hF1.tr (b2.fz (by decide))
    have hS := fun r => hK r S2 hF2
    refine ⟨fun _ => nm_r (nI_1 c) (ih (c + 1) f S2 (by omega) (by omega) hF2), fun _ => ⟨fun z0 => ?_, fun _ => hS _⟩⟩
    have hw10 : 10 ≤ w ∧ w ≤ 12 := by
      rcases hwh with c | c
      · exact absurd (by rw [c]; rfl) z0
      · exact c
    have e10 : nI w - 10 = nI (w - 10) := pk_sub (a := w) (b := 10) hw10.1
    rw [e10]
    exact pk_le n (w - 10) (fun _ => hS _) (fun z => m_figure (b := 5) (by decide) (by decide) (by omega) z (by omega) (hS _))
theorem z_home_42 {S0 : tq_St} {w : Nat} {v1 : Int32} (hG0 : RZ S0 G) (hw : wfQ G) (hwh : w = 0 ∨ (10 ≤ w ∧ w ≤ 12)) (hK : ∀ r S', FZ S0 S' → K r S') : ∀ (m n f : Nat) (S : tq_St), n + m = 4 → m < f → FZ S0 S → wp_X7_home_42 K f v1 (nI w) (nI n) S
  | 0, n, f + 1, S, h1, h2, hF => by
    unfold wp_X7_home_42
    exact pk_le 4 n (fun _ => hK _ S hF) (fun z => absurd z (by omega))
  | m + 1, n, f + 1, S, h1, h2, hF => by
    have hp := pow_bd (b := 5) (n := n) (by decide) (by omega)
    unfold wp_X7_home_42
    refine pk_le 4 n (fun z => absurd z (by omega)) (fun _ => ?_)
    exact z_home_50 hG0 hw (by omega) hwh hK (fun S' f' => z_home_42 hG0 hw hwh hK m (n + 1) f S' (by omega) (by omega) f') (5 ^ n) 0 2000 S (by omega) (by omega) hF
theorem z_home {x y : Int32} (hG : RZ S G) (hw : wfQ G) (hK : ∀ r S', RZ S' G → Fr 28 S S' → K r S') : wp_X7_home x y S K := by
  have hn := hw.1.1
  have hS := fun r => hK r S hG Fr.rf
  unfold wp_X7_home
  refine m_isOne hG.1.1 hn (fun p hp e => ⟨fun z => absurd z (by decide), fun _ => ?_⟩) (fun hno => ⟨fun _ => hS _, fun z => absurd rfl z⟩)
  subst e
  have h28 : ∀ w : Nat, y = nI w → (w = 0 ∨ (10 ≤ w ∧ w ≤ 12)) → wp_X7_home_28 K (nI p) y S := by
    intro w e hwh
    subst e
    unfold wp_X7_home_28
    refine m_waits (g := 0) hG.1.2.2.2.2.1 (by decide) hw.1.g31 (by omega) (fun _ => ⟨fun _ => ?_, fun z => absurd z (by decide)⟩) (fun _ => ⟨fun z => absurd rfl z, fun _ => hS _⟩)
    exact z_home_42 hG hw hwh (fun r S' f => hK r S' (hG.fz hw f) f.1) 4 0 2000 S (by omega) (by omega) FZ.rf
  refine ⟨fun e => h28 0 e (Or.inl rfl), fun _ => ?_⟩
  exact m_in 10 12 (by decide) (by decide) (by decide) (fun w hw1 hw2 e => ⟨fun _ => h28 w e (Or.inr ⟨hw1, hw2⟩), fun z => absurd z (by decide)⟩) (fun h => ⟨fun z => absurd rfl z, fun _ => hS _⟩)
end Z7
