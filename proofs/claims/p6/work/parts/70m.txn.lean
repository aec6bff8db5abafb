section TXN
variable {S S0 : tq_St} {G : aQ} {K : Int32 → tq_St → Prop} {KV : tq_St → Prop}
theorem q_textX (hG : RQ S G) (hw : wfQ G) (hK : ∀ S', wfQ (textG G) → RQ S' (textG G) → FC S S' → K (textI G) S') : wp_X6_text S K := by
  unfold wp_X6_text
  refine s_all hG hw (fun r S1 hy => ?_)
  obtain ⟨y1, y2, y3, y7⟩ := hy
  obtain ⟨h1, h2, h3, h4, h5, h6, h7⟩ := hG
  have g0 := y1 0 (by decide) (by decide)
  have g20 := y1 20 (by decide) (by decide)
  have g27 := y1 27 (by decide) (by decide)
  have g28 := y1 28 (by decide) (by decide)
  have hR1 : ∀ y : Nat, S1.1 19 3 = nI y → RQ S1 (vF (vT G (0, (qT G).2)) y) := by
    intro y y5
    refine ⟨?_, fun k hk => ?_, ⟨y3, fun i hi => absurd hi (by show ¬ i < 0; omega)⟩, y5, by rw [g20.1, g20.2]; exact h5, fun k hk => ?_, by rw [g27.1]; exact h7⟩
    · show RC S1 0 (qA G)
      unfold RC
      rw [g0.1, g0.2]
      exact h1
    · have h2 := h2 k hk
      have g17 := y1 (17 + k) (by omega) (by omega)
      show CI _ k (qI G k)
      unfold CI at h2 ⊢
      split at h2
      · rw [g27.2]; exact h2
      · refine ⟨by rw [g27.2]; exact h2.1, ?_⟩
        unfold RC
        rw [g17.1, g17.2]
        exact h2.2
    · have h6 := h6 k hk
      have g23 := y1 (23 + k) (by omega) (by omega)
      show CH _ k (qH G k)
      unfold CH at h6 ⊢
      rw [g23.1, g23.2]
      exact h6
  have hw1 : ∀ y : Nat, y ≤ 6 → wfQ (vF (vT G (0, (qT G).2)) y) := fun y y4 => ⟨hw.1, hw.2.1, ⟨by show 0 ≤ 160; omega, hw.2.2.1.2⟩, y4, hw.2.2.2.2⟩
  cases eR : textR (qT G).2 (qT G).1 with
  | inl p =>
    obtain ⟨y, w⟩ := p
    rw [eR] at y7
    obtain ⟨b1, b2, b3⟩ := y7
    obtain ⟨e1, e2⟩ := textG_l eR
    rw [e1, e2] at hK
    refine ⟨fun _ => ?_, fun z => absurd z (by rw [b2]; exact nI_ne0 b1.1 (by omega))⟩
    rw [b3]
    exact hK S1 (hw1 y b1.2) (hR1 y b2) g28
  | inr p =>
    obtain ⟨l, A⟩ := p
    rw [eR] at y7
    obtain ⟨b1, b2, c1, c2⟩ := y7
    obtain ⟨e1, e2⟩ := textG_r eR
    rw [e1, e2] at hK
    have hR1 := hR1 0 b1
    have hw1 := hw1 0 (by omega)
    refine ⟨fun z => absurd b1 z, fun _ => ?_⟩
    rw [b2]
    refine c_copyFrom (p := 2) c2 c1 (by decide) (fun S2 a1 a2 _ _ _ => nm_e ?_)
    have e20 : RQ (sI S2 20 2 0) (vS (vA (vF (vT G (0, (qT G).2)) 0) A) (0, (qS G).2)) := (hR1.now a2 a1).seen ((Fr.rf (o := 20)).I _ _) ⟨by rw [sI_1, if_pos rfl]; rfl, fun i hi => absurd hi (by show ¬ i < 0; omega)⟩
    have fc2 : FC S (sI S2 20 2 0) := FC.tr (T := S1) g28 ((a2.fc (by decide)).tr (((Fr.rf (o := 20)).I _ _).fc (by decide)))
    -- the images are gone
    have hloop : ∀ (m i f : Nat) (S' : tq_St), i + m = 2 → m < f → RQ S' (vI (vS (vA (vF (vT G (0, (qT G).2)) 0) A) (0, (qS G).2)) (fun k => if k < i then none else qI G k)) → FC S S' → wp_X6_text_42 K f (nI l) (nI i) S' := by
      intro m
      induction m with
      | zero =>
        intro i f S' g1 g2 hR hF
        obtain ⟨f, rfl⟩ : ∃ k, f = k + 1 := ⟨f - 1, by omega⟩
        refine pk_le 2 i (fun _ => hK S' (toldG_wf hw c1) ?_ hF) (fun z => absurd z (by omega))
        · obtain ⟨r1, r2, r3⟩ := hR
          refine ⟨r1, fun k hk => ?_, r3⟩
          have r2 := r2 k hk
          have e : (if k < i then none else qI G k) = (none : Option aE) := if_pos (by omega)
          have r2 : CI S' k (if k < i then none else qI G k) := r2
          rw [e] at r2
          exact r2
      | succ m ih =>
        intro i f S' g1 g2 hR hF
        obtain ⟨f, rfl⟩ : ∃ k, f = k + 1 := ⟨f - 1, by omega⟩
        unfold wp_X6_text_42
        have en : vp_nar .boolean 0 = 0 := by decide +kernel
        refine pk_le 2 i (fun z => absurd z (by omega)) (fun _ => ⟨vp_in_nI (by omega) (by decide), nm_e (nm_r (nI_1 i) ?_)⟩)
        rw [nI_clamp (by omega), en]
        have f27 := (Fr.rf (o := 27) (S := S')).A 7 i 0
        refine ih (i + 1) f _ (by omega) (by omega) ?_ (hF.tr (f27.fc (by decide)))
        obtain ⟨r1, r2, r3, r4, r5, r6, r7⟩ := hR
        have k19 := f27.1 19 (by decide)
        have k20 := f27.1 20 (by decide)
        refine ⟨r1.fr f27 (by decide), fun k hk => ?_, by rw [k19.1, k19.2]; exact r3, by rw [k19.1]; exact r4, by rw [k20.1, k20.2]; exact r5, fun k hk => ?_, r7⟩
        · show CI (sA S' 27 7 i 0) k (if k < i + 1 then none else qI G k)
          by_cases c : k < i + 1
          · rw [if_pos c]
            show (sA S' 27 7 i 0).2.1 27 7 k = 0
            rw [sA_at]
            by_cases c2 : k = i
            · rw [if_pos c2]
            · rw [if_neg c2]
              have r2 : CI S' k (if k < i then none else qI G k) := r2 k hk
              rw [if_pos (by omega)] at r2
              exact r2
          · rw [if_neg c]
            have r2 : CI S' k (if k < i then none else qI G k) := r2 k hk
            rw [if_neg (by omega)] at r2
            unfold CI at r2 ⊢
            split at r2
            · rw [sA_at, if_neg (by omega)]; exact r2
            · rw [sA_at, if_neg (by omega)]; exact ⟨r2.1, r2.2.fr f27 (by omega)⟩
        · have r6 := r6 k hk
          have k23 := f27.1 (23 + k) (by omega)
          unfold CH at r6 ⊢
          rw [k23.1, k23.2]
          exact r6
    exact hloop 2 0 2000 _ (by omega) (by omega) e20 fc2
end TXN
