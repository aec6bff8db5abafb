section Q1
variable {S : tq_St} {G : aQ} {K : Int32 → tq_St → Prop}
-- THE CLASS'S CALLS: the text's tape, what there is
def feedF (G : aQ) (c : Nat) : aQ := if (qT G).1 < 160 then vT G ((qT G).1 + 1, un (qT G).2 (qT G).1 c) else G
theorem feedF_wf (hw : wfQ G) {c : Nat} (hc : c ≤ 127) : wfQ (feedF G c) := by
  unfold feedF
  split
  · rename_i h
    refine ⟨hw.1, hw.2.1, ⟨by show (qT G).1 + 1 ≤ 160; omega, fun i => ?_⟩, hw.2.2.2⟩
    show un (qT G).2 (qT G).1 c i < 128
    have := hw.2.2.1.2 i
    unfold un
    split <;> omega
  · exact hw
theorem q_feed {x : Int32} (hG : RQ S G) (hw : wfQ G) (hbad : (x < 0 ∨ ¬ x ≤ 127) → K (-1) S) (hok : ∀ c, c ≤ 127 → x = nI c → (qT G).1 < 160 → ∀ S', RQ S' (feedF G c) → FC S S' → K (nI ((qT G).1 + 1)) S') (hfull : ∀ c, c ≤ 127 → x = nI c → (qT G).1 = 160 → K (-3) S) : wp_X6_feed x S K := by
  obtain ⟨h1, h2, ⟨h3, h3b⟩, h4, h5, h6, h7⟩ := hG
  have hl := hw.2.2.1.1
  unfold wp_X6_feed
  refine ⟨fun z => hbad (Or.inl z), fun z => ⟨fun z2 => ?_, fun z2 => hbad (Or.inr z2)⟩⟩
  obtain ⟨c, hc, rfl⟩ := nI_of2 (n := 127) (by decide) z z2
  unfold wp_X5_append
  rw [h3]
  refine pk_lt (qT G).1 160 (fun hlt => ⟨vp_in_nI (by omega) (by decide), nm_e (nm_e ?_)⟩) (fun hge => ?_)
  · refine ⟨fun z => absurd z (by decide), fun _ => ?_⟩
    rw [nI_clamp (by omega), pk_vb, fa_byte_small (by omega)]
    have e1 : (sI (sA S 19 0 (qT G).1 (nI c)) 19 2 ((sA S 19 0 (qT G).1 (nI c)).1 19 2 + 1)).1 19 2 = nI ((qT G).1 + 1) := by
      rw [sI_1, if_pos rfl, sA_1, h3, nI_1]
    rw [e1]
    refine hok c hc rfl hlt _ ?_ ((((Fr.rf (o := 19)).A _ _ _).I _ _).fc (by decide))
    have f := ((Fr.rf (o := 19) (S := S)).A 0 (qT G).1 (nI c)).I 2 ((sA S 19 0 (qT G).1 (nI c)).1 19 2 + 1)
    have f20 := f.1 20 (by decide)
    have f27 := f.1 27 (by decide)
    unfold feedF
    rw [if_pos hlt]
    refine ⟨h1.fr f (by decide), fun k hk => ?_, ⟨e1, fun i hi => ?_⟩, ?_, by rw [f20.1, f20.2]; exact h5, fun k hk => ?_, by rw [f27.1]; exact h7⟩
    · have h2 := h2 k hk
      show CI _ k (qI G k)
      unfold CI at h2 ⊢
      split at h2
      · rw [f27.2]; exact h2
      · rw [f27.2]; exact ⟨h2.1, h2.2.fr f (by omega)⟩
    · show (sA S 19 0 (qT G).1 (nI c)).2.1 19 0 i = nI (un (qT G).2 (qT G).1 c i)
      rw [sA_at]
      have hi : i < (qT G).1 + 1 := hi
      by_cases e : i = (qT G).1
      · subst e; rw [if_pos rfl, un_s]
      · rw [if_neg e, un_n _ _ e]; exact h3b i (by omega)
    · rw [sI_1, if_neg (by decide)]; exact h4
    · have h6 := h6 k hk
      have f23 := f.1 (23 + k) (by omega)
      show CH _ k (qH G k)
      unfold CH at h6 ⊢
      rw [f23.1, f23.2]
      exact h6
  · refine ⟨fun _ => hfull c hc rfl (by omega), fun z => absurd rfl z⟩
/-- the tape's length or the fault is changed -/
theorem RQ.tape {S' : tq_St} (hG : RQ S G) (f : Fr 19 S S') {t : Nat × (Nat → Nat)} {y : Nat} (ht : S'.1 19 2 = nI t.1 ∧ ∀ i, i < t.1 → S'.2.1 19 0 i = nI (t.2 i)) (hy : S'.1 19 3 = nI y) : RQ S' (vF (vT G t) y) := by
  obtain ⟨h1, h2, h3, h4, h5, h6, h7⟩ := hG
  have f20 := f.1 20 (by decide)
  have f27 := f.1 27 (by decide)
  refine ⟨h1.fr f (by decide), fun k hk => ?_, ht, hy, by rw [f20.1, f20.2]; exact h5, fun k hk => ?_, by rw [f27.1]; exact h7⟩
  · have h2 := h2 k hk
    show CI _ k (qI G k)
    unfold CI at h2 ⊢
    split at h2
    · rw [f27.2]; exact h2
    · rw [f27.2]; exact ⟨h2.1, h2.2.fr f (by omega)⟩
  · have h6 := h6 k hk
    have f23 := f.1 (23 + k) (by omega)
    show CH _ k (qH G k)
    unfold CH at h6 ⊢
    rw [f23.1, f23.2]
    exact h6
def endF (G : aQ) (n : Nat) : aQ := vT G (n, (qT G).2)
theorem endF_wf (hw : wfQ G) {n : Nat} (hn : n ≤ (qT G).1) : wfQ (endF G n) := ⟨hw.1, hw.2.1, ⟨by show n ≤ 160; have := hw.2.2.1.1; omega, hw.2.2.1.2⟩, hw.2.2.2⟩
theorem q_end {x : Int32} (hG : RQ S G) (hw : wfQ G) (hbad : (∀ n, n ≤ (qT G).1 → x ≠ nI n) → K (-1) S) (hok : ∀ n, n ≤ (qT G).1 → x = nI n → ∀ S', RQ S' (endF G n) → FC S S' → K (nI (qT G).1) S') : wp_X6_end x S K := by
  have hl := hw.2.2.1.1
  have h3 := hG.2.2.1.1
  unfold wp_X6_end
  rw [h3]
  rcases pk_ix x (n := (qT G).1 + 1) (by omega) with h | h | ⟨n, hn, rfl⟩
  · exact ⟨fun _ => hbad (fun n hn e => by subst e; exact nI_pos (by omega) h), fun z => absurd h z⟩
  · have hb : ∀ n, n ≤ (qT G).1 → x ≠ nI n := fun n hn e => by subst e; exact nI_ge (by omega) (by omega) h
    refine ⟨fun _ => hbad hb, fun _ => ⟨fun z => ?_, fun _ => hbad hb⟩⟩
    rw [Int32.le_iff_toInt_le, nI_toInt (by omega)] at h z
    omega
  · refine ⟨fun z => absurd z (nI_pos (by omega)), fun _ => pk_le n (qT G).1 (fun _ => nm_e (nm_e ?_)) (fun z => absurd z (by omega))⟩
    refine hok n (by omega) rfl _ ?_ (((Fr.rf (o := 19)).I _ _).fc (by decide))
    exact RQ.tape hG ((Fr.rf (o := 19)).I _ _) (t := (n, (qT G).2)) (y := qF G) ⟨by rw [sI_1, if_pos rfl], fun i hi => hG.2.2.1.2 i (by have hi : i < n := hi; omega)⟩ (by rw [sI_1, if_neg (by decide)]; exact hG.2.2.2.1)
theorem q_fault (hG : RQ S G) (hK : K (nI (qF G)) S) : wp_X6_fault S K := by
  unfold wp_X6_fault
  rw [hG.2.2.2.1]
  exact hK
end Q1
