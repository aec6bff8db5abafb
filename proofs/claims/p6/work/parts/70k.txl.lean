section TXL
variable {S S0 : tq_St} {G : aQ} {K : Int32 → tq_St → Prop} {KV : tq_St → Prop} {t : Nat → Nat} {len tz told : Nat} {P : (Nat → Int32) × Int32 × Int32} {A : aE} {β : Type} {E : Nat → Nat → β} {R : β}
/-- a fault: nothing has been told -/
theorem r_100d {y w : Nat} {v : Int32} (hG : RZ S0 G) (hw : wfQ G) (h : ZD P S0 S len y w) (hK : ∀ S', wfQ (vF (vT G (0, (qT G).2)) y) → RZ S' (vF (vT G (0, (qT G).2)) y) → Fr 28 S0 S' → K (-10 - nI w) S') : wp_X7_text_100 K v S := by
  obtain ⟨⟨h1, h2, h3, h4, -, c1, c2, c3⟩, hy, b2, b3⟩ := h
  obtain ⟨g1, g2, g3, g4, g5, g6, g7, g8, g9⟩ := hG
  obtain ⟨w1, w2, w3, w4, w5, w6, w7, w8⟩ := hw
  unfold wp_X7_text_100
  refine nm_e (nm_e ?_)
  have e10 : (sI (sI S 28 8 0) 28 9 ((sI S 28 8 0).1 28 10)).1 28 10 = nI y := by rw [sI_1, if_neg (by decide), sI_1, if_neg (by decide)]; exact b2
  have e11 : (sI (sI S 28 8 0) 28 9 ((sI S 28 8 0).1 28 10)).1 28 11 = nI w := by rw [sI_1, if_neg (by decide), sI_1, if_neg (by decide)]; exact b3
  have e9 : (sI (sI S 28 8 0) 28 9 ((sI S 28 8 0).1 28 10)).1 28 9 = nI y := by rw [sI_1, if_pos rfl, sI_1, if_neg (by decide)]; exact b2
  have e8 : (sI (sI S 28 8 0) 28 9 ((sI S 28 8 0).1 28 10)).1 28 8 = 0 := by rw [sI_1, if_neg (by decide), sI_1, if_pos rfl]
  have eo : ∀ k, k ≠ 8 → k ≠ 9 → (sI (sI S 28 8 0) 28 9 ((sI S 28 8 0).1 28 10)).1 28 k = S.1 28 k := fun k a b => by rw [sI_1, if_neg b, sI_1, if_neg a]
  have ea : (sI (sI S 28 8 0) 28 9 ((sI S 28 8 0).1 28 10)).2 = S.2 := rfl
  have ef : Fr 28 S0 (sI (sI S 28 8 0) 28 9 ((sI S 28 8 0).1 28 10)) := (h1.I _ _).I _ _
  revert e10 e11 e9 e8 eo ea ef
  generalize (sI (sI S 28 8 0) 28 9 ((sI S 28 8 0).1 28 10)) = T
  intro e10 e11 e9 e8 eo ea ef
  rw [e10, e11]
  refine ⟨fun z => absurd z (nI_nle hy.1 (by omega)), fun _ => ?_⟩
  have ka : ∀ k, k ≠ 3 → T.2.1 28 k = S0.2.1 28 k := fun k c => by rw [ea]; exact h3 k c
  have kp : ∀ j, pg T j = pg S0 j := fun j => by show T.2.1 28 0 j = _; rw [ka 0 (by decide)]
  have k2 := (eo 2 (by decide) (by decide)).trans (h2 2 (by omega))
  have hRM : ∀ g B, RM S0 g B → RM T g B := by
    intro g B hB
    unfold RM
    rw [k2, ka 1 (by decide)]
    have : pg T = pg S0 := funext kp
    rw [this]
    exact hB
  refine hK T ⟨w1, w2, ⟨by show 0 ≤ 160; omega, w3.2⟩, hy.2, w5, w6, w7, w8⟩ ?_ ef
  refine ⟨hRM 0 _ g1, fun k hk => ?_, ⟨e8, fun i hi => absurd hi (by show ¬ i < 0; omega)⟩, e9, ⟨?_, fun i hi => ?_⟩, fun k hk => ?_, ?_, fun i hi => ?_, fun i hi => ?_⟩
  · have g2 := g2 k hk
    show ZI T k (qI G k)
    unfold ZI at g2 ⊢
    rw [ka 24 (by decide)]
    split at g2
    · exact g2
    · exact ⟨g2.1, hRM _ _ g2.2⟩
  · rw [eo 22 (by decide) (by decide), h2 22 (by omega)]; exact g5.1
  · rw [ka 21 (by decide)]; exact g5.2 i hi
  · have g6 := g6 k hk
    show ZH T k (qH G k)
    unfold ZH at g6 ⊢
    rw [ka 25 (by decide), ka 26 (by decide), ka 27 (by decide)]
    exact g6
  · rw [eo 28 (by decide) (by decide), h2 28 (by omega)]; exact g7
  · rw [ka 16 (by decide)]; exact g8 i hi
  · rw [ka 17 (by decide)]; exact g9 i hi
theorem r_130 {S1 : tq_St} {v : Int32} (hK : ∀ S', Fr 28 S1 S' → (∀ k, k ≠ 2 → k ≠ 22 → S'.1 28 k = S1.1 28 k) → S'.1 28 2 = S1.1 28 4 → S'.1 28 22 = 0 → (∀ k, k ≠ 0 → k ≠ 24 → S'.2.1 28 k = S1.2.1 28 k) → (∀ j, j < 28 → pg S' j = rp S1 j) → S'.2.1 28 24 0 = 0 → S'.2.1 28 24 1 = 0 → K v S') : ∀ (m i f : Nat) (S : tq_St), i + m = 28 → m < f → Fr 28 S1 S → S.1 = S1.1 → (∀ k, k ≠ 0 → S.2.1 28 k = S1.2.1 28 k) → (∀ j, j < i → pg S j = rp S1 j) → wp_X7_text_130 K f v (nI i) S := by
  intro m
  induction m with
  | zero =>
    intro i f S z1 z2 f1 f2 f3 f4
    obtain ⟨f, rfl⟩ : ∃ k, f = k + 1 := ⟨f - 1, by omega⟩
    unfold wp_X7_text_130
    refine pk_le 28 i (fun _ => nm_e (nm_e ⟨vp_in_nI (n := 0) (by decide) (by decide), nm_e ⟨vp_in_nI (n := 1) (by decide) (by decide), nm_e ?_⟩⟩)) (fun z => absurd z (by omega))
    refine hK _ ((((f1.I _ _).I _ _).A _ _ _).A _ _ _) (fun k a b => ?_) ?_ ?_ (fun k a b => ?_) (fun j hj => ?_) ?_ ?_
    · rw [sA_1, sA_1, sI_1, if_neg b, sI_1, if_neg a, f2]
    · rw [sA_1, sA_1, sI_1, if_neg (by decide), sI_1, if_pos rfl, f2]
    · rw [sA_1, sA_1, sI_1, if_pos rfl]
    · rw [sA_nk _ _ _ _ _ b, sA_nk _ _ _ _ _ b]; exact f3 k a
    · show (sA (sA _ 28 24 _ _) 28 24 _ _).2.1 28 0 j = _
      rw [sA_nk _ _ _ _ _ (by decide), sA_nk _ _ _ _ _ (by decide)]; exact f4 j (by omega)
    · rw [sA_at, if_neg (by decide), sA_at, if_pos (by decide)]; decide
    · rw [sA_at, if_pos (by decide)]; decide
  | succ m ih =>
    intro i f S z1 z2 f1 f2 f3 f4
    obtain ⟨f, rfl⟩ : ∃ k, f = k + 1 := ⟨f - 1, by omega⟩
    unfold wp_X7_text_130
    refine pk_le 28 i (fun z => absurd z (by omega)) (fun _ => ⟨vp_in_nI (by omega) (by decide), vp_in_nI (by omega) (by decide), nm_e (nm_r (nI_1 i) ?_)⟩)
    rw [nI_clamp (by omega)]
    refine ih (i + 1) f _ (by omega) (by omega) (f1.A _ _ _) f2 (fun k hk => (sA_nk _ _ _ _ _ hk).trans (f3 k hk)) (fun j hj => ?_)
    rw [pg_at]
    by_cases c : j = i
    · rw [if_pos c, c, f3 3 (by decide)]
    · rw [if_neg c]; exact f4 j (by omega)
end TXL
