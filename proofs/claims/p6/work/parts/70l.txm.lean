section TXM
variable {S S0 : tq_St} {G : aQ} {K : Int32 → tq_St → Prop} {KV : tq_St → Prop} {t : Nat → Nat} {len tz told : Nat} {P : (Nat → Int32) × Int32 × Int32} {A : aE} {β : Type} {E : Nat → Nat → β} {R : β}
/-- the evening that is told -/
abbrev toldG (G : aQ) (A : aE) : aQ := (A, fun _ => none, (0, (qT G).2), 0, (0, (qS G).2), qH G, qO G)
theorem toldG_wf (hw : wfQ G) (hA : wfE A) : wfQ (toldG G A) := by
  obtain ⟨w1, w2, w3, w4, w5, w6, w7, w8⟩ := hw
  exact ⟨hA, fun k B e => absurd e (by simp), ⟨by show 0 ≤ 160; omega, w3.2⟩, by show 0 ≤ 6; omega, ⟨by show 0 ≤ 6; omega, w5.2⟩, w6, w7, w8⟩
theorem r_100 {v : Int32} (hG : RZ S0 G) (hw : wfQ G) (h : ZL P S0 S len tz) (x2 : RD P A) (x3 : wfD A) (hok : ∀ i, i < aC A → okA (aN A) (aA A i)) (hK : ∀ S', wfQ (toldG G A) → RZ S' (toldG G A) → Fr 28 S0 S' → K v S') : wp_X7_text_100 K v S := by
  obtain ⟨⟨h1, h2, h3, h4, -, c1, c2, c3⟩, b2, -⟩ := h
  have hwT := toldG_wf hw (x3.e hok)
  obtain ⟨g1, g2, g3, g4, g5, g6, g7, g8, g9⟩ := hG
  unfold wp_X7_text_100
  refine nm_e (nm_e ?_)
  have e10 : (sI (sI S 28 8 0) 28 9 ((sI S 28 8 0).1 28 10)).1 28 10 = 0 := by rw [sI_1, if_neg (by decide), sI_1, if_neg (by decide)]; exact b2
  have e9 : (sI (sI S 28 8 0) 28 9 ((sI S 28 8 0).1 28 10)).1 28 9 = 0 := by rw [sI_1, if_pos rfl, sI_1, if_neg (by decide)]; exact b2
  have e8 : (sI (sI S 28 8 0) 28 9 ((sI S 28 8 0).1 28 10)).1 28 8 = 0 := by rw [sI_1, if_neg (by decide), sI_1, if_pos rfl]
  have eo : ∀ k, k ≠ 8 → k ≠ 9 → (sI (sI S 28 8 0) 28 9 ((sI S 28 8 0).1 28 10)).1 28 k = S.1 28 k := fun k a b => by rw [sI_1, if_neg b, sI_1, if_neg a]
  have ea : (sI (sI S 28 8 0) 28 9 ((sI S 28 8 0).1 28 10)).2 = S.2 := rfl
  have ef : Fr 28 S0 (sI (sI S 28 8 0) 28 9 ((sI S 28 8 0).1 28 10)) := (h1.I _ _).I _ _
  revert e10 e9 e8 eo ea ef
  generalize (sI (sI S 28 8 0) 28 9 ((sI S 28 8 0).1 28 10)) = T
  intro e10 e9 e8 eo ea ef
  rw [e10]
  refine ⟨fun _ => ?_, fun z => absurd (by decide) z⟩
  refine r_130 (S1 := T) (fun S' k1 k2 k3 k4 k5 k6 k7 k8 => ?_) 28 0 2000 T (by omega) (by omega) Fr.rf rfl (fun _ _ => rfl) (fun j hj => absurd hj (by omega))
  have erp : ∀ j, j < 28 → pg S' j = P.1 j := fun j hj => by rw [k6 j hj]; show T.2.1 28 3 j = _; rw [ea, c1]
  obtain ⟨d1, d2, d3, d4, d5, d6, d7, d8, d9, d10, d11, -⟩ := x2
  have hn := x3.1
  have hc := x3.2.2.2.2.2.2.2.2.1
  have ka : ∀ k, k ≠ 0 → k ≠ 24 → k ≠ 3 → S'.2.1 28 k = S0.2.1 28 k := fun k a b c => by rw [k5 k a b, ea]; exact h3 k c
  refine hK S' hwT ?_ (ef.tr k1)
  refine ⟨⟨?_, fun p hp => ?_, fun p hp => ?_, fun p hp => ?_, ?_, ?_, ?_, ?_, ?_, fun i hi => ?_, fun k hk => ?_⟩, fun k hk => ?_, ⟨?_, fun i hi => absurd hi (by show ¬ i < 0; omega)⟩, ?_, ⟨k4, fun i hi => absurd hi (by show ¬ i < 0; omega)⟩, fun k hk => ?_, ?_, fun i hi => ?_, fun i hi => ?_⟩
  · rw [k3, eo 4 (by decide) (by decide), c2]; exact d1
  · have hp : p < aN A := hp
    rw [erp _ (by omega), Nat.zero_add]; exact d2 p hp
  · have hp : p < aN A := hp
    rw [erp _ (by omega)]; exact d3 p hp
  · have hp : p < aN A := hp
    rw [erp _ (by omega), d11.2.2 p]; exact d5 p (by omega)
  · rw [erp _ (by omega), d11.1]; exact d6.1
  · rw [erp _ (by omega), d11.2.1]; exact d6.2
  · rw [erp _ (by omega)]; exact d7
  · rw [erp _ (by omega)]; exact d8
  · rw [erp _ (by omega)]; exact d9
  · have hi : i < aC A := hi
    rw [erp _ (by omega)]; exact d10 i hi
  · rw [ka 1 (by decide) (by decide) (by decide)]; exact g1.2.2.2.2.2.2.2.2.2.2 k hk
  · show S'.2.1 28 24 k = 0
    rcases (by omega : k = 0 ∨ k = 1) with c | c
    · subst c; exact k7
    · subst c; exact k8
  · rw [k2 8 (by decide) (by decide), e8]; rfl
  · rw [k2 9 (by decide) (by decide), e9]; rfl
  · have g6 := g6 k hk
    show ZH S' k (qH G k)
    unfold ZH at g6 ⊢
    rw [ka 25 (by decide) (by decide) (by decide), ka 26 (by decide) (by decide) (by decide), ka 27 (by decide) (by decide) (by decide)]
    exact g6
  · rw [k2 28 (by decide) (by decide), eo 28 (by decide) (by decide), h2 28 (by omega)]; exact g7
  · rw [ka 16 (by decide) (by decide) (by decide)]; exact g8 i hi
  · rw [ka 17 (by decide) (by decide) (by decide)]; exact g9 i hi
theorem r_76 {l : Nat} (hG : RZ S0 G) (hw : wfQ G) (h : ZL P S0 S len tz) (x2 : RD P A) (x3 : wfD A) (h13 : S.1 28 13 = nI len) {R : (Nat × Nat) ⊕ (Nat × aE)} (hR : (if fitB A then Sum.inr (l, A) else Sum.inl (6, len)) = R) (hKd : ∀ y w S', R = Sum.inl (y, w) → wfQ (vF (vT G (0, (qT G).2)) y) → RZ S' (vF (vT G (0, (qT G).2)) y) → Fr 28 S0 S' → K (-10 - nI w) S') (hK : ∀ l B S', R = Sum.inr (l, B) → wfQ (toldG G B) → RZ S' (toldG G B) → Fr 28 S0 S' → K (nI l) S') : wp_X7_text_76 K (nI l) S := by
  unfold wp_X7_text_76
  have e4 : S.1 28 4 = nI (aN A) := by rw [h.1.2.2.2.2.2.2.1]; exact x2.1
  obtain ⟨g, g1, g2, g3, g4⟩ := x2.2.2.2.2.2.2.2.2.2.2.2
  have e6 : S.1 28 6 = nI g - 1 := by rw [h.1.2.2.2.2.2.2.2]; exact g2
  have hn := x3.1
  refine ⟨fun z => absurd h.2.1 z, fun _ => ⟨fun q => ?_, fun q => ?_⟩⟩
  · rw [e4, e6, high_lt (by omega) (by omega)] at q
    have hall : ∀ i, i < aC A → okA (aN A) (aA A i) := by
      intro i hi
      have a1 := x3.2.2.2.2.2.2.2.2.2 i hi
      have a2 := g3 i hi
      unfold okA
      omega
    rw [if_pos (by unfold fitB; exact decide_eq_true hall)] at hR
    exact r_100 hG hw h x2 x3 hall (fun S' a b c => hK l A S' hR.symm a b c)
  · rw [e4, e6, high_lt (by omega) (by omega)] at q
    have hno : ¬ ∀ i, i < aC A → aA A i < aN A ∨ aA A i = 5 ∨ aA A i = 6 := by
      intro hall
      rcases g4 with c | ⟨i, hi, c⟩
      · omega
      · have := hall i hi
        omega
    rw [if_neg (by unfold fitB; intro z; exact hno (of_decide_eq_true z))] at hR
    exact r_fails (y := 6) h (by decide) h13 (fun S2 d => r_100d hG hw d (fun S' a b c => hKd 6 len S' hR.symm a b c))
theorem r_52 (hG : RZ S0 G) (hw : wfQ G) (hl : len ≤ 160) (ht : ∀ i, i < len → S0.2.1 28 7 i = nI (t i)) (htb : ∀ i, t i < 128) {R : (Nat × Nat) ⊕ (Nat × aE)} (hKd : ∀ y w S', R = Sum.inl (y, w) → wfQ (vF (vT G (0, (qT G).2)) y) → RZ S' (vF (vT G (0, (qT G).2)) y) → Fr 28 S0 S' → K (-10 - nI w) S') (hK : ∀ l B S', R = Sum.inr (l, B) → wfQ (toldG G B) → RZ S' (toldG G B) → Fr 28 S0 S' → K (nI l) S') : ∀ (m l f tz told : Nat) (P : (Nat → Int32) × Int32 × Int32) (A : aE) (x : aK3) (S : tq_St), len - x.1 < m → m < f → tz < 128 → (∀ j, 4 ≤ j → j ≤ 6 → tz.testBit j = told.testBit j) → (told.testBit 6 = false → aC A = 0) → tkOk t len x → x.2.2 ≠ 4 → ZL P S0 S len tz → ZK S t x → RD P A → wfD A → linesC t len m l told A x (fun y w => Sum.inl (y, w)) (fun l A => if fitB A then Sum.inr (l, A) else Sum.inl (6, len)) = R → wp_X7_text_52 K f (nI l) S := by
  have hcut := hG.2.2.2.2.2.2.2.1
  have hlet := hG.2.2.2.2.2.2.2.2
  have hdead : ∀ y w P' S' f v, 0 < f → ZD P' S0 S' len y w → R = Sum.inl (y, w) → wp_X7_text_52 K f v S' := by
    intro y w P' S' f v hf d e
    obtain ⟨f, rfl⟩ : ∃ k, f = k + 1 := ⟨f - 1, by omega⟩
    unfold wp_X7_text_52
    refine ⟨fun _ => ?_, fun z => absurd z d.ne⟩
    unfold wp_X7_text_76
    exact ⟨fun _ => r_100d hG hw d (fun S2 a b c => hKd y w S2 e a b c), fun z => absurd z d.ne⟩
  intro m
  induction m with
  | zero =>
    intro l f tz told P A x S z1
    omega
  | succ m ih =>
    intro l f tz told P A x S z1 z2 htz hbits hinv hok hx4 hc hx x2 x3 hR
    obtain ⟨f, rfl⟩ : ∃ k, f = k + 1 := ⟨f - 1, by omega⟩
    have hk4 := hok.2.2.1
    unfold linesC at hR
    unfold wp_X7_text_52
    refine ⟨fun z => absurd hc.2.1 z, fun _ => ?_⟩
    rw [hx.2.2.1]
    refine pk_eq x.2.2 0 (fun z => ?_) (fun z => ?_)
    · rw [if_pos z] at hR
      exact r_76 hG hw hc x2 x3 (by rw [hx.1, hok.2.2.2.1.mp z]) hR hKd hK
    · rw [if_neg z] at hR
      refine r_line hl ht htb hcut hlet htz hbits hinv hc hx hok z x2 x3 hR (fun y w P' B S' d _ _ e => nm_r (nI_1 l) ?_) (fun tz' told' P' B x' S' a1 a2 a3 a4 a5 a6 a7 a8 a9 a10 a11 => nm_r (nI_1 l) ?_)
      · exact hdead y w P' S' f _ (by omega) d e.symm
      · have hel := a2.1
        have hel2 := a2.2.1
        exact ih (l + 1) f tz' told' P' B x' S' (by omega) (by omega) a4 a5 a6 a2 a3 a7 a8 a9 a10 a11
theorem r_29 (hG : RZ S0 G) (hw : wfQ G) (hl : len ≤ 160) (ht : ∀ i, i < len → S0.2.1 28 7 i = nI (t i)) (htb : ∀ i, t i < 128) {R : (Nat × Nat) ⊕ (Nat × aE)} (hR : textR t len = R) (hKd : ∀ y w S', R = Sum.inl (y, w) → wfQ (vF (vT G (0, (qT G).2)) y) → RZ S' (vF (vT G (0, (qT G).2)) y) → Fr 28 S0 S' → K (-10 - nI w) S') (hK : ∀ l B S', R = Sum.inr (l, B) → wfQ (toldG G B) → RZ S' (toldG G B) → Fr 28 S0 S' → K (nI l) S') : ∀ (m i f : Nat) (P : Nat → Int32) (S : tq_St), i + m = 28 → m < f → ZL (P, 0, -1) S0 S len 0 → S.1 28 12 = 0 → (∀ j, j < i → P j = 0) → wp_X7_text_29 K f (nI 0) (nI i) S := by
  intro m
  induction m with
  | zero =>
    intro i f P S z1 z2 x1 e12 x2
    obtain ⟨f, rfl⟩ : ∃ k, f = k + 1 := ⟨f - 1, by omega⟩
    unfold wp_X7_text_29
    refine pk_le 28 i (fun _ => ?_) (fun z => absurd z (by omega))
    have hRD : RD (P, 0, -1) e0A := by
      refine ⟨rfl, fun p hp => absurd hp (by show ¬ p < 0; omega), fun p hp => absurd hp (by show ¬ p < 0; omega), fun p _ hp => x2 _ (by omega), fun p hp => x2 _ (by omega), ⟨x2 _ (by omega), x2 _ (by omega)⟩, ?_, ?_, ?_, fun i hi => absurd hi (by show ¬ i < 0; omega), ⟨rfl, rfl, fun _ => rfl⟩, 0, by omega, (by decide : (-1 : Int32) = nI 0 - 1), fun i hi => absurd hi (by show ¬ i < 0; omega), Or.inl rfl⟩
      · exact (x2 17 (by omega)).trans (by decide)
      · exact (x2 18 (by omega)).trans (by decide)
      · exact (x2 27 (by omega)).trans (by decide)
    refine r_step (p := 0) hl ht htb (Nat.zero_le _) x1 e12 hR (fun y w S' d e => ?_) (fun x S' a1 a2 a3 a4 a5 a6 => ?_)
    · rw [wp_X7_text_52]
      refine ⟨fun _ => ?_, fun z => absurd z d.ne⟩
      unfold wp_X7_text_76
      exact ⟨fun _ => r_100d hG hw d (fun S2 a b c => hKd y w S2 e.symm a b c), fun z => absurd z d.ne⟩
    · exact r_52 hG hw hl ht htb hKd hK 161 0 2000 0 0 _ e0A x S' (by omega) (by omega) (by omega) (fun _ _ _ => rfl) (fun _ => rfl) a1 a3 a4 a5 hRD e0_wfD a6
  | succ m ih =>
    intro i f P S z1 z2 x1 e12 x2
    obtain ⟨f, rfl⟩ : ∃ k, f = k + 1 := ⟨f - 1, by omega⟩
    unfold wp_X7_text_29
    refine pk_le 28 i (fun z => absurd z (by omega)) (fun _ => ⟨vp_in_nI (by omega) (by decide), nm_e (nm_r (nI_1 i) ?_)⟩)
    rw [nI_clamp (by omega)]
    refine ih (i + 1) f (upd P i 0) _ (by omega) (by omega) (x1.a i 0) e12 (fun j hj => ?_)
    by_cases c : j = i
    · subst c; exact pk_us
    · rw [pk_un c]; exact x2 j (by omega)
theorem textG_l {y w : Nat} (h : textR (qT G).2 (qT G).1 = Sum.inl (y, w)) : textG G = vF (vT G (0, (qT G).2)) y ∧ textI G = -10 - nI w := by
  unfold textG textI
  rw [h]
  exact ⟨rfl, rfl⟩
theorem textG_r {l : Nat} {B : aE} (h : textR (qT G).2 (qT G).1 = Sum.inr (l, B)) : textG G = toldG G B ∧ textI G = nI l := by
  unfold textG textI
  rw [h]
  exact ⟨rfl, rfl⟩
theorem z_textX (hG : RZ S G) (hw : wfQ G) (hK : ∀ S', wfQ (textG G) → RZ S' (textG G) → Fr 28 S S' → K (textI G) S') : wp_X7_text S K := by
  unfold wp_X7_text
  refine nm_e (nm_e (nm_e (nm_e (nm_e ?_))))
  have h3 := hG.2.2.1
  have w3 := hw.2.2.1
  refine r_29 (S0 := S) (len := (qT G).1) (t := (qT G).2) hG hw w3.1 h3.2 w3.2 rfl (fun y w S' e a b c => ?_) (fun l B S' e a b c => ?_) 28 0 2000 (S.2.1 28 3) _ (by omega) (by omega) ⟨⟨((((Fr.rf.I _ _).I _ _).I _ _).I _ _).I _ _, fun k hk => ?_, fun _ _ => rfl, ?_, ⟨0, by omega, ?_⟩, rfl, ?_, ?_⟩, ?_, ?_⟩ ?_ (fun j hj => absurd hj (by omega))
  · obtain ⟨e1, e2⟩ := textG_l e
    rw [← e2]
    rw [← e1] at a b
    exact hK S' a b c
  · obtain ⟨e1, e2⟩ := textG_r e
    rw [← e2]
    rw [← e1] at a b
    exact hK S' a b c
  · rw [sI_1, if_neg (by omega), sI_1, if_neg (by omega), sI_1, if_neg (by omega), sI_1, if_neg (by omega), sI_1, if_neg (by omega)]
  · simp [sI_1]; exact h3.1
  · simp [sI_1]; rfl
  · simp [sI_1]
  · simp [sI_1]
  · simp [sI_1]
  · simp [sI_1]; rfl
  · simp [sI_1]
end TXM
