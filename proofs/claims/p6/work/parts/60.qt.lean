section QT
variable {S S0 : tq_St} {G : aQ} {K : Int32 → tq_St → Prop} {KV : tq_St → Prop}
theorem c_isActN {o n : Nat} {x : Int32} (h5 : S.1 o 5 = nI n) (hn : n ≤ 5) (h1 : ∀ a, okA n a → x = nI a → K 1 S) (h0 : (∀ a, okA n a → x ≠ nI a) → K 0 S) : wp_X1_isAct o x S K := by
  unfold wp_X1_isAct
  refine c_isThere h5 hn (fun j hj e => ⟨fun _ => h1 j (Or.inl hj) e, fun z => absurd z (by decide)⟩) (fun hno => ⟨fun z => absurd rfl z, fun _ => ?_⟩)
  refine ⟨fun e => h1 5 (Or.inr (Or.inl rfl)) e, fun e5 => ⟨fun e6 => h0 (fun a ha e => ?_), fun e => h1 6 (Or.inr (Or.inr rfl)) e⟩⟩
  rcases ha with ha | ha | ha
  · exact hno a ha e
  · subst ha; exact e5 e
  · subst ha; exact e6 e
theorem c_fit_2 {o : Nat} {A : aE} (hw : wfD A) (hR : RC S o A) (h1 : (∀ i, i < aC A → okA (aN A) (aA A i)) → K 1 S) (h0 : (¬ ∀ i, i < aC A → okA (aN A) (aA A i)) → K 0 S) : ∀ (m i f : Nat), i + m = aC A → m < f → (∀ j, j < i → okA (aN A) (aA A j)) → wp_X1_allActsFit_2 o K f (nI i) S
  | 0, i, f + 1, h2, h3, h4 => by
    have hc := hw.2.2.2.2.2.2.2.2.1
    unfold wp_X1_allActsFit_2
    rw [hR.2.2.2.2.2.1]
    exact pk_le (aC A) i (fun _ => h1 (fun j hj => h4 j (by omega))) (fun z => absurd z (by omega))
  | m + 1, i, f + 1, h2, h3, h4 => by
    have hc := hw.2.2.2.2.2.2.2.2.1
    have h6 := hw.2.2.2.2.2.2.2.2.2 i (by omega)
    have hn := hw.1
    unfold wp_X1_allActsFit_2
    rw [hR.2.2.2.2.2.1]
    refine pk_le (aC A) i (fun z => absurd z (by omega)) (fun hi => ⟨vp_in_nI (by omega) (by decide), ?_⟩)
    rw [nI_clamp (by omega), hR.2.2.2.2.2.2.2.2.2 i hi]
    refine c_isActN hR.1 hw.1 (fun a ha e => ⟨fun _ => nm_r (nI_1 i) ?_, fun z => absurd z (by decide)⟩) (fun hno => ⟨fun z => absurd rfl z, fun _ => h0 (fun hall => hno _ (hall i hi) rfl)⟩)
    refine c_fit_2 hw hR h1 h0 m (i + 1) f (by omega) (by omega) (fun j hj => ?_)
    by_cases c : j = i
    · subst c
      have : a < 2 ^ 31 := by unfold okA at ha; omega
      rw [(nI_eq (by omega) this).mp e]; exact ha
    · exact h4 j (by omega)
theorem c_fit {o : Nat} {A : aE} (hw : wfD A) (hR : RC S o A) (h1 : (∀ i, i < aC A → okA (aN A) (aA A i)) → K 1 S) (h0 : (¬ ∀ i, i < aC A → okA (aN A) (aA A i)) → K 0 S) : wp_X1_allActsFit o S K :=
  c_fit_2 hw hR h1 h0 (aC A) 0 2000 (by omega) (by have := hw.2.2.2.2.2.2.2.2.1; omega) (fun j hj => by omega)
theorem wfD.e {A : aE} (hw : wfD A) (h : ∀ i, i < aC A → okA (aN A) (aA A i)) : wfE A := ⟨hw.1, hw.2.1, hw.2.2.1, hw.2.2.2.1, hw.2.2.2.2.1, hw.2.2.2.2.2.1, hw.2.2.2.2.2.2.1, hw.2.2.2.2.2.2.2.1, hw.2.2.2.2.2.2.2.2.1, h⟩
/-- behind the text -/
def YT (S0 S : tq_St) : Prop := (∀ o, o ≠ 19 → o ≠ 2 → S.1 o = S0.1 o ∧ S.2.1 o = S0.2.1 o) ∧ S.2.1 19 = S0.2.1 19 ∧ S.1 19 2 = 0 ∧ ∃ y, y ≤ 6 ∧ S.1 19 3 = nI y ∧ (y = 0 → ∃ A, wfE A ∧ RC S 2 A)
theorem t_91 {len : Nat} {v : Int32} (h : XT S0 S len) (h2 : S.1 19 3 = 0 → ∃ A, wfE A ∧ RC S 2 A) (hK : ∀ r S', YT S0 S' → K r S') : wp_X5_tellAll_91 K v S := by
  obtain ⟨h1, -, h3, h4, -, ⟨y, b1, b2⟩, -⟩ := h
  unfold wp_X5_tellAll_91
  refine nm_e ?_
  have hy : YT S0 (sI S 19 2 0) := by
    refine ⟨fun o a b => ⟨(sI_1n S a).trans (h1 o a b).1, (h1 o a b).2⟩, h3, by rw [sI_1, if_pos rfl], y, b1, by rw [sI_1, if_neg (by decide)]; exact b2, fun e => ?_⟩
    obtain ⟨A, c1, c2⟩ := h2 (by rw [b2, e]; rfl)
    exact ⟨A, c1, c2.fr ((Fr.rf (o := 19)).I _ _) (by decide)⟩
  exact ⟨fun _ => hK _ _ hy, fun _ => hK _ _ hy⟩
theorem t_64 {len : Nat} {v : Int32} (h : XT S0 S len) (hK : ∀ r S', YT S0 S' → K r S') : wp_X5_tellAll_64 K v S := by
  unfold wp_X5_tellAll_64
  refine ⟨fun z => t_91 h (fun e => absurd e z) hK, fun z => ?_⟩
  obtain ⟨A, c1, c2⟩ := h.2.2.2.2.2.2
  refine c_fit c1 c2 (fun hall => ⟨fun _ => t_91 h (fun _ => ⟨A, c1.e hall, c2⟩) hK, fun z => absurd z (by decide)⟩) (fun hno => ⟨fun z => absurd rfl z, fun _ => ?_⟩)
  unfold wp_X5_fail
  refine ⟨fun z2 => absurd z z2, fun _ => nm_e (nm_e ?_)⟩
  refine t_91 ((h.f (y := 6) (by decide)).i (k := 4) (by decide) _) (fun e => ?_) hK
  rw [sI_1, if_neg (by decide), sI_1, if_pos rfl] at e
  exact absurd e (by decide)
theorem t_33 {len : Nat} (hl : len ≤ 160) (hK : ∀ r S', YT S0 S' → K r S') : ∀ (m i f : Nat) (S : tq_St), i + m = 160 → m < f → XT S0 S len → wp_X5_tellAll_33 K f (nI i) S
  | 0, i, f + 1, S, h1, h2, h => by
    unfold wp_X5_tellAll_33
    exact ⟨fun _ => t_64 h hK, fun _ => ⟨fun _ => t_64 h hK, fun _ => pk_le 160 i (fun _ => t_64 h hK) (fun z => absurd z (by omega))⟩⟩
  | m + 1, i, f + 1, S, h1, h2, h => by
    unfold wp_X5_tellAll_33
    refine ⟨fun _ => t_64 h hK, fun _ => ⟨fun _ => t_64 h hK, fun _ => pk_le 160 i (fun z => absurd z (by omega)) (fun _ => ?_)⟩⟩
    exact t_line hl h (fun S2 x2 => nm_r (nI_1 i) (t_33 hl hK m (i + 1) f S2 (by omega) (by omega) x2))
theorem c_clear {o : Nat} (hK : ∀ S', RC S' o (0, fun _ => 0, fun _ => 0, fun _ => 0, 0, 0, 2, 4, 0, fun _ => 0) → Fr o S S' → KV S') : wp_X1_clear o S KV := by
  unfold wp_X1_clear
  refine nm_e (nm_e (nm_e (nm_e (nm_e (nm_e ?_)))))
  have hR : RC (sI (sI (sI (sI (sI (sI S o 5 0) o 6 0) o 7 0) o 8 2) o 9 4) o 10 0) o (0, fun _ => 0, fun _ => 0, fun _ => 0, 0, 0, 2, 4, 0, fun _ => 0) := by
    refine ⟨?_, ?_, ?_, ?_, ?_, ?_, fun q hq => absurd hq (by show ¬ q < 0; omega), fun q hq => absurd hq (by show ¬ q < 0; omega), fun q hq => absurd hq (by show ¬ q < 0; omega), fun q hq => absurd hq (by show ¬ q < 0; omega)⟩ <;> simp [sI_1] <;> rfl
  exact c_clearTally hR (fun S2 a1 a2 _ => hK S2 a1 (((((((Fr.rf.I _ _).I _ _).I _ _).I _ _).I _ _).I _ _).tr a2))
theorem e0_wf : wfE (0, fun _ => 0, fun _ => 0, fun _ => 0, 0, 0, 2, 4, 0, fun _ => 0) := ⟨by decide, fun _ => by show 0 < 4; decide, fun _ => by show 0 ≤ 40; decide, fun _ => by show 0 ≤ 1000; decide, by decide, by decide, by decide, by decide, by decide, fun i hi => absurd hi (by show ¬ i < 0; omega)⟩
theorem e0_wfD : wfD (0, fun _ => 0, fun _ => 0, fun _ => 0, 0, 0, 2, 4, 0, fun _ => 0) := ⟨by decide, fun _ => by show 0 < 4; decide, fun _ => by show 0 ≤ 40; decide, fun _ => by show 0 ≤ 1000; decide, by decide, by decide, by decide, by decide, by decide, fun i hi => absurd hi (by show ¬ i < 0; omega)⟩
/-- as XT, but for where the token begins -/
def XW (S0 S : tq_St) (len : Nat) : Prop := (∀ o, o ≠ 19 → o ≠ 2 → S.1 o = S0.1 o ∧ S.2.1 o = S0.2.1 o) ∧ S.2.2 = S0.2.2 ∧ S.2.1 19 = S0.2.1 19 ∧ S.1 19 2 = nI len ∧ (∃ y, y ≤ 6 ∧ S.1 19 3 = nI y) ∧ ∃ A, wfD A ∧ RC S 2 A
theorem XW.pl {len : Nat} (h : XW S0 S len) (v : Int32) : XW S0 (sI S 19 6 v) len := by
  obtain ⟨h1, h2, h3, h4, ⟨y, b1, b2⟩, A, c1, c2⟩ := h
  exact ⟨fun o a b => ⟨(sI_1n S a).trans (h1 o a b).1, (h1 o a b).2⟩, h2, h3, by rw [sI_1, if_neg (by decide)]; exact h4, ⟨y, b1, by rw [sI_1, if_neg (by decide)]; exact b2⟩, A, c1, c2.fr ((Fr.rf (o := 19)).I _ _) (by decide)⟩
theorem XW.xt {len pl : Nat} (h : XW S0 S len) (h6 : S.1 19 6 = nI pl) (hp : pl ≤ len) : XT S0 (sI S 19 8 (nI pl)) len := by
  obtain ⟨h1, h2, h3, h4, ⟨y, b1, b2⟩, A, c1, c2⟩ := h
  exact ⟨fun o a b => ⟨(sI_1n S a).trans (h1 o a b).1, (h1 o a b).2⟩, h2, h3, by rw [sI_1, if_neg (by decide)]; exact h4, ⟨pl, pl, Nat.le_refl _, hp, by rw [sI_1, if_pos rfl], by rw [sI_1, if_neg (by decide)]; exact h6⟩, ⟨y, b1, by rw [sI_1, if_neg (by decide)]; exact b2⟩, A, c1, c2.fr ((Fr.rf (o := 19)).I _ _) (by decide)⟩
theorem t_tok_38W {len pl : Nat} (hl : len ≤ 160) (h : XW S0 S len) (h6 : S.1 19 6 = nI pl) (hp : pl ≤ len) (hK : ∀ S', XT S0 S' len → KV S') : wp_X5_takeToken_38 KV S := by
  have h79 : ∀ (r : Int32) (S' : tq_St), XT S0 S' len → S'.1 19 6 = nI pl → S'.1 19 8 = nI pl → wp_X5_takeToken_79 KV r S' := by
    intro r S' x1 x2 x3
    unfold wp_X5_takeToken_79
    refine nm_e ?_
    have y1 := x1.i (k := 7) (by decide) r
    have y2 : (sI S' 19 7 r).1 19 6 = nI pl := by rw [sI_1, if_neg (by decide)]; exact x2
    have y3 : (sI S' 19 7 r).1 19 8 = nI pl := by rw [sI_1, if_neg (by decide)]; exact x3
    have hgo := fun v : Int32 => t_tok_104 (v := v) hl hK (len - pl) pl 2000 _ (by omega) (by omega) (Nat.le_refl _) y1 y2 y3
    exact ⟨fun _ => hgo 1, fun _ => ⟨fun _ => hgo 0, fun _ => hgo 1⟩⟩
  unfold wp_X5_takeToken_38
  rw [h6]
  refine nm_e (nm_e ?_)
  have h1 := (h.xt h6 hp).i (k := 9) (by decide) 0
  have e6 : (sI (sI S 19 8 (nI pl)) 19 9 0).1 19 6 = nI pl := by rw [sI_1, if_neg (by decide), sI_1, if_neg (by decide)]; exact h6
  have e8 : (sI (sI S 19 8 (nI pl)) 19 9 0).1 19 8 = nI pl := by rw [sI_1, if_neg (by decide), sI_1, if_pos rfl]
  rw [h1.2.2.2.1, e6]
  exact pk_le len pl (fun _ => h79 _ _ h1 e6 e8) (fun z => ⟨vp_in_nI (by omega) (by decide), t_sort (fun r => h79 r _ h1 e6 e8)⟩)
theorem t_tok_0W {len : Nat} (hl : len ≤ 160) (hK : ∀ S', XT S0 S' len → KV S') : ∀ (m pl f : Nat) (S : tq_St), pl + m = len → m < f → XW S0 S len → S.1 19 6 = nI pl → wp_X5_takeToken_0 KV f S
  | 0, pl, f + 1, S, h1, h2, h, h6 => by
    unfold wp_X5_takeToken_0
    rw [h.2.2.2.1, h6]
    exact pk_le len pl (fun _ => t_tok_38W hl h h6 (by omega) hK) (fun z => absurd z (by omega))
  | m + 1, pl, f + 1, S, h1, h2, h, h6 => by
    unfold wp_X5_takeToken_0
    rw [h.2.2.2.1, h6]
    refine pk_le len pl (fun z => absurd z (by omega)) (fun _ => ⟨vp_in_nI (by omega) (by decide), fun _ => t_tok_38W hl h h6 (by omega) hK, fun _ => nm_r (e' := sI S 19 6 (nI (pl + 1))) (by rw [nI_1]) ?_⟩)
    refine t_tok_0W hl hK m (pl + 1) f _ (by omega) (by omega) (h.pl _) ?_
    rw [sI_1, if_pos rfl]
theorem t_all (hG : RQ S G) (hw : wfQ G) (hK : ∀ r S', YT S S' → K r S') : wp_X5_tellAll S K := by
  have hl := hw.2.2.1.1
  have h2 := hG.2.2.1.1
  unfold wp_X5_tellAll
  refine c_clear (fun S1 a1 a2 => nm_e (nm_e (nm_e (nm_e ?_))))
  have f := ((((Fr.rf (o := 19) (S := S1)).I 3 0).I 4 0).I 5 0).I 6 0
  have f19 := a2.1 19 (by decide)
  have hx : XW S (sI (sI (sI (sI S1 19 3 0) 19 4 0) 19 5 0) 19 6 0) (qT G).1 := by
    refine ⟨fun o b c => ⟨((f.1 o b).1).trans (a2.1 o c).1, ((f.1 o b).2).trans (a2.1 o c).2⟩, a2.2, f19.2, ?_, ⟨0, by omega, ?_⟩, _, e0_wfD, a1.fr f (by decide)⟩
    · simp only [sI_1, f19.1]; simp [h2]
    · simp [sI_1]; rfl
  unfold wp_X5_takeToken
  refine t_tok_0W hl (fun S2 x2 => ?_) (qT G).1 0 2000 _ (by omega) (by omega) hx (by rw [sI_1, if_pos rfl]; rfl)
  exact t_33 hl hK 160 0 2000 S2 (by omega) (by omega) x2
theorem q_text (hG : RQ S G) (hw : wfQ G) (hK : ∀ r S' G', wfQ G' → RQ S' G' → (qT G').1 = 0 → FC S S' → K r S') : wp_X6_text S K := by
  unfold wp_X6_text
  refine t_all hG hw (fun r S1 hy => ?_)
  obtain ⟨y1, y2, y3, y, y4, y5, y6⟩ := hy
  obtain ⟨h1, h2, h3, h4, h5, h6, h7⟩ := hG
  have g0 := y1 0 (by decide) (by decide)
  have g20 := y1 20 (by decide) (by decide)
  have g27 := y1 27 (by decide) (by decide)
  have g28 := y1 28 (by decide) (by decide)
  have hR1 : RQ S1 (vF (vT G (0, (qT G).2)) y) := by
    refine ⟨?_, fun k hk => ?_, ⟨y3, fun i hi => absurd hi (by show ¬ i < 0; omega)⟩, y5, by rw [g20.1, g20.2]; exact h5, fun k hk => ?_, by rw [g27.1]; exact h7⟩
    · show RC S1 0 (qA G)
      unfold RC
      rw [g0.1, g0.2]
      exact h1
    · have h2 := h2 k hk
      have g17 := y1 (17 + k) (by omega) (by omega)
      show CI _ k (qI G k)
      unfold CI at h2 ⊢
      split at h2
      · rw [g27.2]; exact h2
      · refine ⟨by rw [g27.2]; exact h2.1, ?_⟩
        unfold RC
        rw [g17.1, g17.2]
        exact h2.2
    · have h6 := h6 k hk
      have g23 := y1 (23 + k) (by omega) (by omega)
      show CH _ k (qH G k)
      unfold CH at h6 ⊢
      rw [g23.1, g23.2]
      exact h6
  have hw1 : wfQ (vF (vT G (0, (qT G).2)) y) := ⟨hw.1, hw.2.1, ⟨by show 0 ≤ 160; omega, hw.2.2.1.2⟩, y4, hw.2.2.2.2⟩
  refine ⟨fun _ => hK r S1 _ hw1 hR1 rfl g28, fun z => ?_⟩
  have hy0 : y = 0 := by
    rw [y5] at z
    exact (nI_eq (by omega) (by decide)).mp z
  obtain ⟨A, c1, c2⟩ := y6 hy0
  refine c_copyFrom (p := 2) c2 c1 (by decide) (fun S2 a1 a2 _ _ _ => nm_e ?_)
  have e20 : RQ (sI S2 20 2 0) (vS (vA (vF (vT G (0, (qT G).2)) y) A) (0, (qS G).2)) := (hR1.now a2 a1).seen ((Fr.rf (o := 20)).I _ _) ⟨by rw [sI_1, if_pos rfl]; rfl, fun i hi => absurd hi (by show ¬ i < 0; omega)⟩
  have fc2 : FC S (sI S2 20 2 0) := FC.tr (T := S1) g28 ((a2.fc (by decide)).tr (((Fr.rf (o := 20)).I _ _).fc (by decide)))
  -- the images are gone
  have hloop : ∀ (m i f : Nat) (S' : tq_St), i + m = 2 → m < f → RQ S' (vI (vS (vA (vF (vT G (0, (qT G).2)) y) A) (0, (qS G).2)) (fun k => if k < i then none else qI G k)) → FC S S' → wp_X6_text_42 K f r (nI i) S' := by
    intro m
    induction m with
    | zero =>
      intro i f S' g1 g2 hR hF
      obtain ⟨f, rfl⟩ : ∃ k, f = k + 1 := ⟨f - 1, by omega⟩
      refine pk_le 2 i (fun _ => hK r S' (vI (vS (vA (vF (vT G (0, (qT G).2)) y) A) (0, (qS G).2)) (fun _ => none)) ?_ ?_ rfl hF) (fun z => absurd z (by omega))
      · exact ⟨c1, fun k B e => (by cases e), ⟨by show 0 ≤ 160; omega, hw.2.2.1.2⟩, y4, ⟨by show 0 ≤ 6; omega, hw.2.2.2.2.1.2⟩, hw.2.2.2.2.2⟩
      · obtain ⟨r1, r2, r3⟩ := hR
        refine ⟨r1, fun k hk => ?_, r3⟩
        have r2 := r2 k hk
        have e : (if k < i then none else qI G k) = (none : Option aE) := if_pos (by omega)
        have r2 : CI S' k (if k < i then none else qI G k) := r2
        rw [e] at r2
        exact r2
    | succ m ih =>
      intro i f S' g1 g2 hR hF
      obtain ⟨f, rfl⟩ : ∃ k, f = k + 1 := ⟨f - 1, by omega⟩
      unfold wp_X6_text_42
      have en : vp_nar .boolean 0 = 0 := by decide +kernel
      refine pk_le 2 i (fun z => absurd z (by omega)) (fun _ => ⟨vp_in_nI (by omega) (by decide), nm_e (nm_r (nI_1 i) ?_)⟩)
      rw [nI_clamp (by omega), en]
      have f27 := (Fr.rf (o := 27) (S := S')).A 7 i 0
      refine ih (i + 1) f _ (by omega) (by omega) ?_ (hF.tr (f27.fc (by decide)))
      obtain ⟨r1, r2, r3, r4, r5, r6, r7⟩ := hR
      have k19 := f27.1 19 (by decide)
      have k20 := f27.1 20 (by decide)
      refine ⟨r1.fr f27 (by decide), fun k hk => ?_, by rw [k19.1, k19.2]; exact r3, by rw [k19.1]; exact r4, by rw [k20.1, k20.2]; exact r5, fun k hk => ?_, r7⟩
      · show CI (sA S' 27 7 i 0) k (if k < i + 1 then none else qI G k)
        by_cases c : k < i + 1
        · rw [if_pos c]
          show (sA S' 27 7 i 0).2.1 27 7 k = 0
          rw [sA_at]
          by_cases c2 : k = i
          · rw [if_pos c2]
          · rw [if_neg c2]
            have r2 : CI S' k (if k < i then none else qI G k) := r2 k hk
            rw [if_pos (by omega)] at r2
            exact r2
        · rw [if_neg c]
          have r2 : CI S' k (if k < i then none else qI G k) := r2 k hk
          rw [if_neg (by omega)] at r2
          unfold CI at r2 ⊢
          split at r2
          · rw [sA_at, if_neg (by omega)]; exact r2
          · rw [sA_at, if_neg (by omega)]; exact ⟨r2.1, r2.2.fr f27 (by omega)⟩
      · have r6 := r6 k hk
        have k23 := f27.1 (23 + k) (by omega)
        unfold CH at r6 ⊢
        rw [k23.1, k23.2]
        exact r6
  exact hloop 2 0 2000 _ (by omega) (by omega) e20 fc2
end QT
